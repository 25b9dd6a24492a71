/-! DECODE ROWS, by program -/
theorem d_Mo_init_0 : decode b_Mo_init 0 = .ok (.aload_n 0, 1) := by decide +kernel
theorem d_Mo_init_1 : decode b_Mo_init 1 = .ok (.invokespecial 1, 3) := by decide +kernel
theorem d_Mo_init_4 : decode b_Mo_init 4 = .ok (.aload_n 0, 1) := by decide +kernel
theorem d_Mo_init_5 : decode b_Mo_init 5 = .ok (.bipush 24, 2) := by decide +kernel
theorem d_Mo_init_7 : decode b_Mo_init 7 = .ok (.newarray .int, 2) := by decide +kernel
theorem d_Mo_init_9 : decode b_Mo_init 9 = .ok (.putfield 7, 3) := by decide +kernel
theorem d_Mo_init_12 : decode b_Mo_init 12 = .ok (.aload_n 0, 1) := by decide +kernel
theorem d_Mo_init_13 : decode b_Mo_init 13 = .ok (.bipush 24, 2) := by decide +kernel
theorem d_Mo_init_15 : decode b_Mo_init 15 = .ok (.newarray .int, 2) := by decide +kernel
theorem d_Mo_init_17 : decode b_Mo_init 17 = .ok (.putfield 13, 3) := by decide +kernel
theorem d_Mo_init_20 : decode b_Mo_init 20 = .ok (.aload_n 0, 1) := by decide +kernel
theorem d_Mo_init_21 : decode b_Mo_init 21 = .ok (.bipush 24, 2) := by decide +kernel
theorem d_Mo_init_23 : decode b_Mo_init 23 = .ok (.newarray .int, 2) := by decide +kernel
theorem d_Mo_init_25 : decode b_Mo_init 25 = .ok (.putfield 16, 3) := by decide +kernel
theorem d_Mo_init_28 : decode b_Mo_init 28 = .ok (.aload_n 0, 1) := by decide +kernel
theorem d_Mo_init_29 : decode b_Mo_init 29 = .ok (.bipush 24, 2) := by decide +kernel
theorem d_Mo_init_31 : decode b_Mo_init 31 = .ok (.newarray .int, 2) := by decide +kernel
theorem d_Mo_init_33 : decode b_Mo_init 33 = .ok (.putfield 19, 3) := by decide +kernel
theorem d_Mo_init_36 : decode b_Mo_init 36 = .ok (.aload_n 0, 1) := by decide +kernel
theorem d_Mo_init_37 : decode b_Mo_init 37 = .ok (.bipush 24, 2) := by decide +kernel
theorem d_Mo_init_39 : decode b_Mo_init 39 = .ok (.newarray .int, 2) := by decide +kernel
theorem d_Mo_init_41 : decode b_Mo_init 41 = .ok (.putfield 22, 3) := by decide +kernel
theorem d_Mo_init_44 : decode b_Mo_init 44 = .ok (.aload_n 0, 1) := by decide +kernel
theorem d_Mo_init_45 : decode b_Mo_init 45 = .ok (.bipush 8, 2) := by decide +kernel
theorem d_Mo_init_47 : decode b_Mo_init 47 = .ok (.newarray .int, 2) := by decide +kernel
theorem d_Mo_init_49 : decode b_Mo_init 49 = .ok (.putfield 25, 3) := by decide +kernel
theorem d_Mo_init_52 : decode b_Mo_init 52 = .ok (.aload_n 0, 1) := by decide +kernel
theorem d_Mo_init_53 : decode b_Mo_init 53 = .ok (.bipush 12, 2) := by decide +kernel
theorem d_Mo_init_55 : decode b_Mo_init 55 = .ok (.newarray .int, 2) := by decide +kernel
theorem d_Mo_init_57 : decode b_Mo_init 57 = .ok (.putfield 28, 3) := by decide +kernel
theorem d_Mo_init_60 : decode b_Mo_init 60 = .ok (.aload_n 0, 1) := by decide +kernel
theorem d_Mo_init_61 : decode b_Mo_init 61 = .ok (.iconst 2, 1) := by decide +kernel
theorem d_Mo_init_62 : decode b_Mo_init 62 = .ok (.newarray .int, 2) := by decide +kernel
theorem d_Mo_init_64 : decode b_Mo_init 64 = .ok (.putfield 31, 3) := by decide +kernel
theorem d_Mo_init_67 : decode b_Mo_init 67 = .ok (.aload_n 0, 1) := by decide +kernel
theorem d_Mo_init_68 : decode b_Mo_init 68 = .ok (.iconst 4, 1) := by decide +kernel
theorem d_Mo_init_69 : decode b_Mo_init 69 = .ok (.newarray .int, 2) := by decide +kernel
theorem d_Mo_init_71 : decode b_Mo_init 71 = .ok (.putfield 34, 3) := by decide +kernel
theorem d_Mo_init_74 : decode b_Mo_init 74 = .ok (.aload_n 0, 1) := by decide +kernel
theorem d_Mo_init_75 : decode b_Mo_init 75 = .ok (.iconst 4, 1) := by decide +kernel
theorem d_Mo_init_76 : decode b_Mo_init 76 = .ok (.newarray .int, 2) := by decide +kernel
theorem d_Mo_init_78 : decode b_Mo_init 78 = .ok (.putfield 37, 3) := by decide +kernel
theorem d_Mo_init_81 : decode b_Mo_init 81 = .ok (.aload_n 0, 1) := by decide +kernel
theorem d_Mo_init_82 : decode b_Mo_init 82 = .ok (.bipush 8, 2) := by decide +kernel
theorem d_Mo_init_84 : decode b_Mo_init 84 = .ok (.newarray .int, 2) := by decide +kernel
theorem d_Mo_init_86 : decode b_Mo_init 86 = .ok (.putfield 40, 3) := by decide +kernel
theorem d_Mo_init_89 : decode b_Mo_init 89 = .ok (.aload_n 0, 1) := by decide +kernel
theorem d_Mo_init_90 : decode b_Mo_init 90 = .ok (.iconst 4, 1) := by decide +kernel
theorem d_Mo_init_91 : decode b_Mo_init 91 = .ok (.newarray .double, 2) := by decide +kernel
theorem d_Mo_init_93 : decode b_Mo_init 93 = .ok (.putfield 43, 3) := by decide +kernel
theorem d_Mo_init_96 : decode b_Mo_init 96 = .ok (.aload_n 0, 1) := by decide +kernel
theorem d_Mo_init_97 : decode b_Mo_init 97 = .ok (.bipush 48, 2) := by decide +kernel
theorem d_Mo_init_99 : decode b_Mo_init 99 = .ok (.newarray .double, 2) := by decide +kernel
theorem d_Mo_init_101 : decode b_Mo_init 101 = .ok (.putfield 47, 3) := by decide +kernel
theorem d_Mo_init_104 : decode b_Mo_init 104 = .ok (.aload_n 0, 1) := by decide +kernel
theorem d_Mo_init_105 : decode b_Mo_init 105 = .ok (.bipush 24, 2) := by decide +kernel
theorem d_Mo_init_107 : decode b_Mo_init 107 = .ok (.newarray .int, 2) := by decide +kernel
theorem d_Mo_init_109 : decode b_Mo_init 109 = .ok (.putfield 50, 3) := by decide +kernel
theorem d_Mo_init_112 : decode b_Mo_init 112 = .ok (.aload_n 0, 1) := by decide +kernel
theorem d_Mo_init_113 : decode b_Mo_init 113 = .ok (.bipush 24, 2) := by decide +kernel
theorem d_Mo_init_115 : decode b_Mo_init 115 = .ok (.newarray .int, 2) := by decide +kernel
theorem d_Mo_init_117 : decode b_Mo_init 117 = .ok (.putfield 53, 3) := by decide +kernel
theorem d_Mo_init_120 : decode b_Mo_init 120 = .ok (.aload_n 0, 1) := by decide +kernel
theorem d_Mo_init_121 : decode b_Mo_init 121 = .ok (.bipush 120, 2) := by decide +kernel
theorem d_Mo_init_123 : decode b_Mo_init 123 = .ok (.newarray .int, 2) := by decide +kernel
theorem d_Mo_init_125 : decode b_Mo_init 125 = .ok (.putfield 56, 3) := by decide +kernel
theorem d_Mo_init_128 : decode b_Mo_init 128 = .ok (.aload_n 0, 1) := by decide +kernel
theorem d_Mo_init_129 : decode b_Mo_init 129 = .ok (.bipush 24, 2) := by decide +kernel
theorem d_Mo_init_131 : decode b_Mo_init 131 = .ok (.newarray .boolean, 2) := by decide +kernel
theorem d_Mo_init_133 : decode b_Mo_init 133 = .ok (.putfield 59, 3) := by decide +kernel
theorem d_Mo_init_136 : decode b_Mo_init 136 = .ok (.aload_n 0, 1) := by decide +kernel
theorem d_Mo_init_137 : decode b_Mo_init 137 = .ok (.iconst (-1), 1) := by decide +kernel
theorem d_Mo_init_138 : decode b_Mo_init 138 = .ok (.putfield 63, 3) := by decide +kernel
theorem d_Mo_init_141 : decode b_Mo_init 141 = .ok (.aload_n 0, 1) := by decide +kernel
theorem d_Mo_init_142 : decode b_Mo_init 142 = .ok (.iconst 1, 1) := by decide +kernel
theorem d_Mo_init_143 : decode b_Mo_init 143 = .ok (.putfield 67, 3) := by decide +kernel
theorem d_Mo_init_146 : decode b_Mo_init 146 = .ok (.aload_n 0, 1) := by decide +kernel
theorem d_Mo_init_147 : decode b_Mo_init 147 = .ok (.invokevirtual 71, 3) := by decide +kernel
theorem d_Mo_init_150 : decode b_Mo_init 150 = .ok (.return_, 1) := by decide +kernel
theorem d_Mo_thrown_0 : decode b_Mo_thrown 0 = .ok (.aload_n 0, 1) := by decide +kernel
theorem d_Mo_thrown_1 : decode b_Mo_thrown 1 = .ok (.getfield 74, 3) := by decide +kernel
theorem d_Mo_thrown_4 : decode b_Mo_thrown 4 = .ok (.ireturn, 1) := by decide +kernel
theorem d_Mo_in_0 : decode b_Mo_in 0 = .ok (.iload_n 0, 1) := by decide +kernel
theorem d_Mo_in_1 : decode b_Mo_in 1 = .ok (.iload_n 1, 1) := by decide +kernel
theorem d_Mo_in_2 : decode b_Mo_in 2 = .ok (.if_icmp .lt 12, 3) := by decide +kernel
theorem d_Mo_in_5 : decode b_Mo_in 5 = .ok (.iload_n 0, 1) := by decide +kernel
theorem d_Mo_in_6 : decode b_Mo_in 6 = .ok (.iload_n 2, 1) := by decide +kernel
theorem d_Mo_in_7 : decode b_Mo_in 7 = .ok (.if_icmp .gt 7, 3) := by decide +kernel
theorem d_Mo_in_10 : decode b_Mo_in 10 = .ok (.iconst 1, 1) := by decide +kernel
theorem d_Mo_in_11 : decode b_Mo_in 11 = .ok (.goto 4, 3) := by decide +kernel
theorem d_Mo_in_14 : decode b_Mo_in 14 = .ok (.iconst 0, 1) := by decide +kernel
theorem d_Mo_in_15 : decode b_Mo_in 15 = .ok (.ireturn, 1) := by decide +kernel
theorem d_Mo_bad_0 : decode b_Mo_bad 0 = .ok (.aload_n 0, 1) := by decide +kernel
theorem d_Mo_bad_1 : decode b_Mo_bad 1 = .ok (.iload_n 1, 1) := by decide +kernel
theorem d_Mo_bad_2 : decode b_Mo_bad 2 = .ok (.ifCond .eq 7, 3) := by decide +kernel
theorem d_Mo_bad_5 : decode b_Mo_bad 5 = .ok (.iconst 0, 1) := by decide +kernel
theorem d_Mo_bad_6 : decode b_Mo_bad 6 = .ok (.goto 4, 3) := by decide +kernel
theorem d_Mo_bad_9 : decode b_Mo_bad 9 = .ok (.iconst 1, 1) := by decide +kernel
theorem d_Mo_bad_10 : decode b_Mo_bad 10 = .ok (.putfield 74, 3) := by decide +kernel
theorem d_Mo_bad_13 : decode b_Mo_bad 13 = .ok (.iload_n 1, 1) := by decide +kernel
theorem d_Mo_bad_14 : decode b_Mo_bad 14 = .ok (.ifCond .ne 7, 3) := by decide +kernel
theorem d_Mo_bad_17 : decode b_Mo_bad 17 = .ok (.iconst 1, 1) := by decide +kernel
theorem d_Mo_bad_18 : decode b_Mo_bad 18 = .ok (.goto 4, 3) := by decide +kernel
theorem d_Mo_bad_21 : decode b_Mo_bad 21 = .ok (.iconst 0, 1) := by decide +kernel
theorem d_Mo_bad_22 : decode b_Mo_bad 22 = .ok (.ireturn, 1) := by decide +kernel
theorem d_Mo_reset_0 : decode b_Mo_reset 0 = .ok (.iconst 0, 1) := by decide +kernel
theorem d_Mo_reset_1 : decode b_Mo_reset 1 = .ok (.istore_n 1, 1) := by decide +kernel
theorem d_Mo_reset_2 : decode b_Mo_reset 2 = .ok (.iload_n 1, 1) := by decide +kernel
theorem d_Mo_reset_3 : decode b_Mo_reset 3 = .ok (.bipush 12, 2) := by decide +kernel
theorem d_Mo_reset_5 : decode b_Mo_reset 5 = .ok (.if_icmp .ge 16, 3) := by decide +kernel
theorem d_Mo_reset_8 : decode b_Mo_reset 8 = .ok (.aload_n 0, 1) := by decide +kernel
theorem d_Mo_reset_9 : decode b_Mo_reset 9 = .ok (.getfield 28, 3) := by decide +kernel
theorem d_Mo_reset_12 : decode b_Mo_reset 12 = .ok (.iload_n 1, 1) := by decide +kernel
theorem d_Mo_reset_13 : decode b_Mo_reset 13 = .ok (.iconst 0, 1) := by decide +kernel
theorem d_Mo_reset_14 : decode b_Mo_reset 14 = .ok (.iastore, 1) := by decide +kernel
theorem d_Mo_reset_15 : decode b_Mo_reset 15 = .ok (.iinc 1 1, 3) := by decide +kernel
theorem d_Mo_reset_18 : decode b_Mo_reset 18 = .ok (.goto (-16), 3) := by decide +kernel
theorem d_Mo_reset_21 : decode b_Mo_reset 21 = .ok (.iconst 0, 1) := by decide +kernel
theorem d_Mo_reset_22 : decode b_Mo_reset 22 = .ok (.istore_n 1, 1) := by decide +kernel
theorem d_Mo_reset_23 : decode b_Mo_reset 23 = .ok (.iload_n 1, 1) := by decide +kernel
theorem d_Mo_reset_24 : decode b_Mo_reset 24 = .ok (.bipush 8, 2) := by decide +kernel
theorem d_Mo_reset_26 : decode b_Mo_reset 26 = .ok (.if_icmp .ge 23, 3) := by decide +kernel
theorem d_Mo_reset_29 : decode b_Mo_reset 29 = .ok (.aload_n 0, 1) := by decide +kernel
theorem d_Mo_reset_30 : decode b_Mo_reset 30 = .ok (.getfield 25, 3) := by decide +kernel
theorem d_Mo_reset_33 : decode b_Mo_reset 33 = .ok (.iload_n 1, 1) := by decide +kernel
theorem d_Mo_reset_34 : decode b_Mo_reset 34 = .ok (.iconst 0, 1) := by decide +kernel
theorem d_Mo_reset_35 : decode b_Mo_reset 35 = .ok (.iastore, 1) := by decide +kernel
theorem d_Mo_reset_36 : decode b_Mo_reset 36 = .ok (.aload_n 0, 1) := by decide +kernel
theorem d_Mo_reset_37 : decode b_Mo_reset 37 = .ok (.getfield 40, 3) := by decide +kernel
theorem d_Mo_reset_40 : decode b_Mo_reset 40 = .ok (.iload_n 1, 1) := by decide +kernel
theorem d_Mo_reset_41 : decode b_Mo_reset 41 = .ok (.iconst 1, 1) := by decide +kernel
theorem d_Mo_reset_42 : decode b_Mo_reset 42 = .ok (.iastore, 1) := by decide +kernel
theorem d_Mo_reset_43 : decode b_Mo_reset 43 = .ok (.iinc 1 1, 3) := by decide +kernel
theorem d_Mo_reset_46 : decode b_Mo_reset 46 = .ok (.goto (-23), 3) := by decide +kernel
theorem d_Mo_reset_49 : decode b_Mo_reset 49 = .ok (.iconst 0, 1) := by decide +kernel
theorem d_Mo_reset_50 : decode b_Mo_reset 50 = .ok (.istore_n 1, 1) := by decide +kernel
theorem d_Mo_reset_51 : decode b_Mo_reset 51 = .ok (.iload_n 1, 1) := by decide +kernel
theorem d_Mo_reset_52 : decode b_Mo_reset 52 = .ok (.iconst 4, 1) := by decide +kernel
theorem d_Mo_reset_53 : decode b_Mo_reset 53 = .ok (.if_icmp .ge 39, 3) := by decide +kernel
theorem d_Mo_reset_56 : decode b_Mo_reset 56 = .ok (.aload_n 0, 1) := by decide +kernel
theorem d_Mo_reset_57 : decode b_Mo_reset 57 = .ok (.getfield 43, 3) := by decide +kernel
theorem d_Mo_reset_60 : decode b_Mo_reset 60 = .ok (.iload_n 1, 1) := by decide +kernel
theorem d_Mo_reset_61 : decode b_Mo_reset 61 = .ok (.dconst 0, 1) := by decide +kernel
theorem d_Mo_reset_62 : decode b_Mo_reset 62 = .ok (.dastore, 1) := by decide +kernel
theorem d_Mo_reset_63 : decode b_Mo_reset 63 = .ok (.aload_n 0, 1) := by decide +kernel
theorem d_Mo_reset_64 : decode b_Mo_reset 64 = .ok (.getfield 34, 3) := by decide +kernel
theorem d_Mo_reset_67 : decode b_Mo_reset 67 = .ok (.iload_n 1, 1) := by decide +kernel
theorem d_Mo_reset_68 : decode b_Mo_reset 68 = .ok (.iconst (-1), 1) := by decide +kernel
theorem d_Mo_reset_69 : decode b_Mo_reset 69 = .ok (.iastore, 1) := by decide +kernel
theorem d_Mo_reset_70 : decode b_Mo_reset 70 = .ok (.aload_n 0, 1) := by decide +kernel
theorem d_Mo_reset_71 : decode b_Mo_reset 71 = .ok (.getfield 37, 3) := by decide +kernel
theorem d_Mo_reset_74 : decode b_Mo_reset 74 = .ok (.iload_n 1, 1) := by decide +kernel
theorem d_Mo_reset_75 : decode b_Mo_reset 75 = .ok (.iconst 0, 1) := by decide +kernel
theorem d_Mo_reset_76 : decode b_Mo_reset 76 = .ok (.iastore, 1) := by decide +kernel
theorem d_Mo_reset_77 : decode b_Mo_reset 77 = .ok (.aload_n 0, 1) := by decide +kernel
theorem d_Mo_reset_78 : decode b_Mo_reset 78 = .ok (.getfield 31, 3) := by decide +kernel
theorem d_Mo_reset_81 : decode b_Mo_reset 81 = .ok (.iload_n 1, 1) := by decide +kernel
theorem d_Mo_reset_82 : decode b_Mo_reset 82 = .ok (.iconst 2, 1) := by decide +kernel
theorem d_Mo_reset_83 : decode b_Mo_reset 83 = .ok (.idiv, 1) := by decide +kernel
theorem d_Mo_reset_84 : decode b_Mo_reset 84 = .ok (.iconst (-1), 1) := by decide +kernel
theorem d_Mo_reset_85 : decode b_Mo_reset 85 = .ok (.iastore, 1) := by decide +kernel
theorem d_Mo_reset_86 : decode b_Mo_reset 86 = .ok (.iinc 1 1, 3) := by decide +kernel
theorem d_Mo_reset_89 : decode b_Mo_reset 89 = .ok (.goto (-38), 3) := by decide +kernel
theorem d_Mo_reset_92 : decode b_Mo_reset 92 = .ok (.aload_n 0, 1) := by decide +kernel
theorem d_Mo_reset_93 : decode b_Mo_reset 93 = .ok (.aload_n 0, 1) := by decide +kernel
theorem d_Mo_reset_94 : decode b_Mo_reset 94 = .ok (.aload_n 0, 1) := by decide +kernel
theorem d_Mo_reset_95 : decode b_Mo_reset 95 = .ok (.aload_n 0, 1) := by decide +kernel
theorem d_Mo_reset_96 : decode b_Mo_reset 96 = .ok (.aload_n 0, 1) := by decide +kernel
theorem d_Mo_reset_97 : decode b_Mo_reset 97 = .ok (.aload_n 0, 1) := by decide +kernel
theorem d_Mo_reset_98 : decode b_Mo_reset 98 = .ok (.aload_n 0, 1) := by decide +kernel
theorem d_Mo_reset_99 : decode b_Mo_reset 99 = .ok (.iconst 0, 1) := by decide +kernel
theorem d_Mo_reset_100 : decode b_Mo_reset 100 = .ok (.dup_x1, 1) := by decide +kernel
theorem d_Mo_reset_101 : decode b_Mo_reset 101 = .ok (.putfield 77, 3) := by decide +kernel
theorem d_Mo_reset_104 : decode b_Mo_reset 104 = .ok (.dup_x1, 1) := by decide +kernel
theorem d_Mo_reset_105 : decode b_Mo_reset 105 = .ok (.putfield 80, 3) := by decide +kernel
theorem d_Mo_reset_108 : decode b_Mo_reset 108 = .ok (.dup_x1, 1) := by decide +kernel
theorem d_Mo_reset_109 : decode b_Mo_reset 109 = .ok (.putfield 83, 3) := by decide +kernel
theorem d_Mo_reset_112 : decode b_Mo_reset 112 = .ok (.dup_x1, 1) := by decide +kernel
theorem d_Mo_reset_113 : decode b_Mo_reset 113 = .ok (.putfield 86, 3) := by decide +kernel
theorem d_Mo_reset_116 : decode b_Mo_reset 116 = .ok (.dup_x1, 1) := by decide +kernel
theorem d_Mo_reset_117 : decode b_Mo_reset 117 = .ok (.putfield 89, 3) := by decide +kernel
theorem d_Mo_reset_120 : decode b_Mo_reset 120 = .ok (.dup_x1, 1) := by decide +kernel
theorem d_Mo_reset_121 : decode b_Mo_reset 121 = .ok (.putfield 92, 3) := by decide +kernel
theorem d_Mo_reset_124 : decode b_Mo_reset 124 = .ok (.putfield 95, 3) := by decide +kernel
theorem d_Mo_reset_127 : decode b_Mo_reset 127 = .ok (.aload_n 0, 1) := by decide +kernel
theorem d_Mo_reset_128 : decode b_Mo_reset 128 = .ok (.iconst (-1), 1) := by decide +kernel
theorem d_Mo_reset_129 : decode b_Mo_reset 129 = .ok (.putfield 63, 3) := by decide +kernel
theorem d_Mo_reset_132 : decode b_Mo_reset 132 = .ok (.aload_n 0, 1) := by decide +kernel
theorem d_Mo_reset_133 : decode b_Mo_reset 133 = .ok (.iconst 0, 1) := by decide +kernel
theorem d_Mo_reset_134 : decode b_Mo_reset 134 = .ok (.putfield 98, 3) := by decide +kernel
theorem d_Mo_reset_137 : decode b_Mo_reset 137 = .ok (.return_, 1) := by decide +kernel
theorem d_Mo_code_0 : decode b_Mo_code 0 = .ok (.aload_n 0, 1) := by decide +kernel
theorem d_Mo_code_1 : decode b_Mo_code 1 = .ok (.iload_n 1, 1) := by decide +kernel
theorem d_Mo_code_2 : decode b_Mo_code 2 = .ok (.iconst 0, 1) := by decide +kernel
theorem d_Mo_code_3 : decode b_Mo_code 3 = .ok (.bipush 23, 2) := by decide +kernel
theorem d_Mo_code_5 : decode b_Mo_code 5 = .ok (.invokestatic 101, 3) := by decide +kernel
theorem d_Mo_code_8 : decode b_Mo_code 8 = .ok (.ifCond .eq 49, 3) := by decide +kernel
theorem d_Mo_code_11 : decode b_Mo_code 11 = .ok (.iload_n 2, 1) := by decide +kernel
theorem d_Mo_code_12 : decode b_Mo_code 12 = .ok (.iconst 0, 1) := by decide +kernel
theorem d_Mo_code_13 : decode b_Mo_code 13 = .ok (.bipush 19, 2) := by decide +kernel
theorem d_Mo_code_15 : decode b_Mo_code 15 = .ok (.invokestatic 101, 3) := by decide +kernel
theorem d_Mo_code_18 : decode b_Mo_code 18 = .ok (.ifCond .eq 39, 3) := by decide +kernel
theorem d_Mo_code_21 : decode b_Mo_code 21 = .ok (.iload_n 3, 1) := by decide +kernel
theorem d_Mo_code_22 : decode b_Mo_code 22 = .ok (.iconst 0, 1) := by decide +kernel
theorem d_Mo_code_23 : decode b_Mo_code 23 = .ok (.bipush 7, 2) := by decide +kernel
theorem d_Mo_code_25 : decode b_Mo_code 25 = .ok (.invokestatic 101, 3) := by decide +kernel
theorem d_Mo_code_28 : decode b_Mo_code 28 = .ok (.ifCond .eq 29, 3) := by decide +kernel
theorem d_Mo_code_31 : decode b_Mo_code 31 = .ok (.iload 4, 2) := by decide +kernel
theorem d_Mo_code_33 : decode b_Mo_code 33 = .ok (.iconst 0, 1) := by decide +kernel
theorem d_Mo_code_34 : decode b_Mo_code 34 = .ok (.bipush 7, 2) := by decide +kernel
theorem d_Mo_code_36 : decode b_Mo_code 36 = .ok (.invokestatic 101, 3) := by decide +kernel
theorem d_Mo_code_39 : decode b_Mo_code 39 = .ok (.ifCond .eq 18, 3) := by decide +kernel
theorem d_Mo_code_42 : decode b_Mo_code 42 = .ok (.iload 5, 2) := by decide +kernel
theorem d_Mo_code_44 : decode b_Mo_code 44 = .ok (.iconst 0, 1) := by decide +kernel
theorem d_Mo_code_45 : decode b_Mo_code 45 = .ok (.bipush 7, 2) := by decide +kernel
theorem d_Mo_code_47 : decode b_Mo_code 47 = .ok (.invokestatic 101, 3) := by decide +kernel
theorem d_Mo_code_50 : decode b_Mo_code 50 = .ok (.ifCond .eq 7, 3) := by decide +kernel
theorem d_Mo_code_53 : decode b_Mo_code 53 = .ok (.iconst 1, 1) := by decide +kernel
theorem d_Mo_code_54 : decode b_Mo_code 54 = .ok (.goto 4, 3) := by decide +kernel
theorem d_Mo_code_57 : decode b_Mo_code 57 = .ok (.iconst 0, 1) := by decide +kernel
theorem d_Mo_code_58 : decode b_Mo_code 58 = .ok (.invokevirtual 105, 3) := by decide +kernel
theorem d_Mo_code_61 : decode b_Mo_code 61 = .ok (.ifCond .eq 4, 3) := by decide +kernel
theorem d_Mo_code_64 : decode b_Mo_code 64 = .ok (.return_, 1) := by decide +kernel
theorem d_Mo_code_65 : decode b_Mo_code 65 = .ok (.aload_n 0, 1) := by decide +kernel
theorem d_Mo_code_66 : decode b_Mo_code 66 = .ok (.getfield 7, 3) := by decide +kernel
theorem d_Mo_code_69 : decode b_Mo_code 69 = .ok (.iload_n 1, 1) := by decide +kernel
theorem d_Mo_code_70 : decode b_Mo_code 70 = .ok (.iload_n 2, 1) := by decide +kernel
theorem d_Mo_code_71 : decode b_Mo_code 71 = .ok (.iastore, 1) := by decide +kernel
theorem d_Mo_code_72 : decode b_Mo_code 72 = .ok (.aload_n 0, 1) := by decide +kernel
theorem d_Mo_code_73 : decode b_Mo_code 73 = .ok (.getfield 13, 3) := by decide +kernel
theorem d_Mo_code_76 : decode b_Mo_code 76 = .ok (.iload_n 1, 1) := by decide +kernel
theorem d_Mo_code_77 : decode b_Mo_code 77 = .ok (.iload_n 3, 1) := by decide +kernel
theorem d_Mo_code_78 : decode b_Mo_code 78 = .ok (.iastore, 1) := by decide +kernel
theorem d_Mo_code_79 : decode b_Mo_code 79 = .ok (.aload_n 0, 1) := by decide +kernel
theorem d_Mo_code_80 : decode b_Mo_code 80 = .ok (.getfield 16, 3) := by decide +kernel
theorem d_Mo_code_83 : decode b_Mo_code 83 = .ok (.iload_n 1, 1) := by decide +kernel
theorem d_Mo_code_84 : decode b_Mo_code 84 = .ok (.iload 4, 2) := by decide +kernel
theorem d_Mo_code_86 : decode b_Mo_code 86 = .ok (.iastore, 1) := by decide +kernel
theorem d_Mo_code_87 : decode b_Mo_code 87 = .ok (.aload_n 0, 1) := by decide +kernel
theorem d_Mo_code_88 : decode b_Mo_code 88 = .ok (.getfield 19, 3) := by decide +kernel
theorem d_Mo_code_91 : decode b_Mo_code 91 = .ok (.iload_n 1, 1) := by decide +kernel
theorem d_Mo_code_92 : decode b_Mo_code 92 = .ok (.iload 5, 2) := by decide +kernel
theorem d_Mo_code_94 : decode b_Mo_code 94 = .ok (.iastore, 1) := by decide +kernel
theorem d_Mo_code_95 : decode b_Mo_code 95 = .ok (.aload_n 0, 1) := by decide +kernel
theorem d_Mo_code_96 : decode b_Mo_code 96 = .ok (.getfield 22, 3) := by decide +kernel
theorem d_Mo_code_99 : decode b_Mo_code 99 = .ok (.iload_n 1, 1) := by decide +kernel
theorem d_Mo_code_100 : decode b_Mo_code 100 = .ok (.iload 6, 2) := by decide +kernel
theorem d_Mo_code_102 : decode b_Mo_code 102 = .ok (.iastore, 1) := by decide +kernel
theorem d_Mo_code_103 : decode b_Mo_code 103 = .ok (.return_, 1) := by decide +kernel
theorem d_Mo_cell_0 : decode b_Mo_cell 0 = .ok (.aload_n 0, 1) := by decide +kernel
theorem d_Mo_cell_1 : decode b_Mo_cell 1 = .ok (.iload_n 1, 1) := by decide +kernel
theorem d_Mo_cell_2 : decode b_Mo_cell 2 = .ok (.iconst 0, 1) := by decide +kernel
theorem d_Mo_cell_3 : decode b_Mo_cell 3 = .ok (.bipush 47, 2) := by decide +kernel
theorem d_Mo_cell_5 : decode b_Mo_cell 5 = .ok (.invokestatic 101, 3) := by decide +kernel
theorem d_Mo_cell_8 : decode b_Mo_cell 8 = .ok (.ifCond .eq 23, 3) := by decide +kernel
theorem d_Mo_cell_11 : decode b_Mo_cell 11 = .ok (.dload_n 2, 1) := by decide +kernel
theorem d_Mo_cell_12 : decode b_Mo_cell 12 = .ok (.ldc2_w 109, 3) := by decide +kernel
theorem d_Mo_cell_15 : decode b_Mo_cell 15 = .ok (.dcmp .l, 1) := by decide +kernel
theorem d_Mo_cell_16 : decode b_Mo_cell 16 = .ok (.ifCond .lt 15, 3) := by decide +kernel
theorem d_Mo_cell_19 : decode b_Mo_cell 19 = .ok (.dload_n 2, 1) := by decide +kernel
theorem d_Mo_cell_20 : decode b_Mo_cell 20 = .ok (.ldc2_w 111, 3) := by decide +kernel
theorem d_Mo_cell_23 : decode b_Mo_cell 23 = .ok (.dcmp .g, 1) := by decide +kernel
theorem d_Mo_cell_24 : decode b_Mo_cell 24 = .ok (.ifCond .gt 7, 3) := by decide +kernel
theorem d_Mo_cell_27 : decode b_Mo_cell 27 = .ok (.iconst 1, 1) := by decide +kernel
theorem d_Mo_cell_28 : decode b_Mo_cell 28 = .ok (.goto 4, 3) := by decide +kernel
theorem d_Mo_cell_31 : decode b_Mo_cell 31 = .ok (.iconst 0, 1) := by decide +kernel
theorem d_Mo_cell_32 : decode b_Mo_cell 32 = .ok (.invokevirtual 105, 3) := by decide +kernel
theorem d_Mo_cell_35 : decode b_Mo_cell 35 = .ok (.ifCond .eq 4, 3) := by decide +kernel
theorem d_Mo_cell_38 : decode b_Mo_cell 38 = .ok (.return_, 1) := by decide +kernel
theorem d_Mo_cell_39 : decode b_Mo_cell 39 = .ok (.aload_n 0, 1) := by decide +kernel
theorem d_Mo_cell_40 : decode b_Mo_cell 40 = .ok (.getfield 47, 3) := by decide +kernel
theorem d_Mo_cell_43 : decode b_Mo_cell 43 = .ok (.iload_n 1, 1) := by decide +kernel
theorem d_Mo_cell_44 : decode b_Mo_cell 44 = .ok (.dload_n 2, 1) := by decide +kernel
theorem d_Mo_cell_45 : decode b_Mo_cell 45 = .ok (.dastore, 1) := by decide +kernel
theorem d_Mo_cell_46 : decode b_Mo_cell 46 = .ok (.return_, 1) := by decide +kernel
theorem d_Mo_start_0 : decode b_Mo_start 0 = .ok (.aload_n 0, 1) := by decide +kernel
theorem d_Mo_start_1 : decode b_Mo_start 1 = .ok (.iload_n 1, 1) := by decide +kernel
theorem d_Mo_start_2 : decode b_Mo_start 2 = .ok (.iconst 0, 1) := by decide +kernel
theorem d_Mo_start_3 : decode b_Mo_start 3 = .ok (.bipush 23, 2) := by decide +kernel
theorem d_Mo_start_5 : decode b_Mo_start 5 = .ok (.invokestatic 101, 3) := by decide +kernel
theorem d_Mo_start_8 : decode b_Mo_start 8 = .ok (.invokevirtual 105, 3) := by decide +kernel
theorem d_Mo_start_11 : decode b_Mo_start 11 = .ok (.ifCond .eq 4, 3) := by decide +kernel
theorem d_Mo_start_14 : decode b_Mo_start 14 = .ok (.return_, 1) := by decide +kernel
theorem d_Mo_start_15 : decode b_Mo_start 15 = .ok (.aload_n 0, 1) := by decide +kernel
theorem d_Mo_start_16 : decode b_Mo_start 16 = .ok (.invokevirtual 71, 3) := by decide +kernel
theorem d_Mo_start_19 : decode b_Mo_start 19 = .ok (.aload_n 0, 1) := by decide +kernel
theorem d_Mo_start_20 : decode b_Mo_start 20 = .ok (.iload_n 1, 1) := by decide +kernel
theorem d_Mo_start_21 : decode b_Mo_start 21 = .ok (.putfield 113, 3) := by decide +kernel
theorem d_Mo_start_24 : decode b_Mo_start 24 = .ok (.aload_n 0, 1) := by decide +kernel
theorem d_Mo_start_25 : decode b_Mo_start 25 = .ok (.iconst 0, 1) := by decide +kernel
theorem d_Mo_start_26 : decode b_Mo_start 26 = .ok (.putfield 67, 3) := by decide +kernel
theorem d_Mo_start_29 : decode b_Mo_start 29 = .ok (.return_, 1) := by decide +kernel
theorem d_Mo_first_0 : decode b_Mo_first 0 = .ok (.aload_n 0, 1) := by decide +kernel
theorem d_Mo_first_1 : decode b_Mo_first 1 = .ok (.getfield 7, 3) := by decide +kernel
theorem d_Mo_first_4 : decode b_Mo_first 4 = .ok (.iload_n 1, 1) := by decide +kernel
theorem d_Mo_first_5 : decode b_Mo_first 5 = .ok (.iaload, 1) := by decide +kernel
theorem d_Mo_first_6 : decode b_Mo_first 6 = .ok (.istore_n 2, 1) := by decide +kernel
theorem d_Mo_first_7 : decode b_Mo_first 7 = .ok (.iload_n 2, 1) := by decide +kernel
theorem d_Mo_first_8 : decode b_Mo_first 8 = .ok (.ifCond .eq 9, 3) := by decide +kernel
theorem d_Mo_first_11 : decode b_Mo_first 11 = .ok (.iload_n 2, 1) := by decide +kernel
theorem d_Mo_first_12 : decode b_Mo_first 12 = .ok (.bipush 19, 2) := by decide +kernel
theorem d_Mo_first_14 : decode b_Mo_first 14 = .ok (.if_icmp .ne 5, 3) := by decide +kernel
theorem d_Mo_first_17 : decode b_Mo_first 17 = .ok (.iconst 0, 1) := by decide +kernel
theorem d_Mo_first_18 : decode b_Mo_first 18 = .ok (.ireturn, 1) := by decide +kernel
theorem d_Mo_first_19 : decode b_Mo_first 19 = .ok (.iload_n 2, 1) := by decide +kernel
theorem d_Mo_first_20 : decode b_Mo_first 20 = .ok (.bipush 10, 2) := by decide +kernel
theorem d_Mo_first_22 : decode b_Mo_first 22 = .ok (.bipush 14, 2) := by decide +kernel
theorem d_Mo_first_24 : decode b_Mo_first 24 = .ok (.invokestatic 101, 3) := by decide +kernel
theorem d_Mo_first_27 : decode b_Mo_first 27 = .ok (.ifCond .ne 9, 3) := by decide +kernel
theorem d_Mo_first_30 : decode b_Mo_first 30 = .ok (.iload_n 2, 1) := by decide +kernel
theorem d_Mo_first_31 : decode b_Mo_first 31 = .ok (.bipush 16, 2) := by decide +kernel
theorem d_Mo_first_33 : decode b_Mo_first 33 = .ok (.if_icmp .ne 17, 3) := by decide +kernel
theorem d_Mo_first_36 : decode b_Mo_first 36 = .ok (.bipush 8, 2) := by decide +kernel
theorem d_Mo_first_38 : decode b_Mo_first 38 = .ok (.aload_n 0, 1) := by decide +kernel
theorem d_Mo_first_39 : decode b_Mo_first 39 = .ok (.getfield 16, 3) := by decide +kernel
theorem d_Mo_first_42 : decode b_Mo_first 42 = .ok (.iload_n 1, 1) := by decide +kernel
theorem d_Mo_first_43 : decode b_Mo_first 43 = .ok (.iaload, 1) := by decide +kernel
theorem d_Mo_first_44 : decode b_Mo_first 44 = .ok (.iconst 4, 1) := by decide +kernel
theorem d_Mo_first_45 : decode b_Mo_first 45 = .ok (.irem, 1) := by decide +kernel
theorem d_Mo_first_46 : decode b_Mo_first 46 = .ok (.iadd, 1) := by decide +kernel
theorem d_Mo_first_47 : decode b_Mo_first 47 = .ok (.goto 9, 3) := by decide +kernel
theorem d_Mo_first_50 : decode b_Mo_first 50 = .ok (.aload_n 0, 1) := by decide +kernel
theorem d_Mo_first_51 : decode b_Mo_first 51 = .ok (.getfield 16, 3) := by decide +kernel
theorem d_Mo_first_54 : decode b_Mo_first 54 = .ok (.iload_n 1, 1) := by decide +kernel
theorem d_Mo_first_55 : decode b_Mo_first 55 = .ok (.iaload, 1) := by decide +kernel
theorem d_Mo_first_56 : decode b_Mo_first 56 = .ok (.ireturn, 1) := by decide +kernel
theorem d_Mo_second_0 : decode b_Mo_second 0 = .ok (.aload_n 0, 1) := by decide +kernel
theorem d_Mo_second_1 : decode b_Mo_second 1 = .ok (.getfield 7, 3) := by decide +kernel
theorem d_Mo_second_4 : decode b_Mo_second 4 = .ok (.iload_n 1, 1) := by decide +kernel
theorem d_Mo_second_5 : decode b_Mo_second 5 = .ok (.iaload, 1) := by decide +kernel
theorem d_Mo_second_6 : decode b_Mo_second 6 = .ok (.istore_n 2, 1) := by decide +kernel
theorem d_Mo_second_7 : decode b_Mo_second 7 = .ok (.iload_n 2, 1) := by decide +kernel
theorem d_Mo_second_8 : decode b_Mo_second 8 = .ok (.iconst 2, 1) := by decide +kernel
theorem d_Mo_second_9 : decode b_Mo_second 9 = .ok (.iconst 5, 1) := by decide +kernel
theorem d_Mo_second_10 : decode b_Mo_second 10 = .ok (.invokestatic 101, 3) := by decide +kernel
theorem d_Mo_second_13 : decode b_Mo_second 13 = .ok (.ifCond .ne 21, 3) := by decide +kernel
theorem d_Mo_second_16 : decode b_Mo_second 16 = .ok (.iload_n 2, 1) := by decide +kernel
theorem d_Mo_second_17 : decode b_Mo_second 17 = .ok (.bipush 7, 2) := by decide +kernel
theorem d_Mo_second_19 : decode b_Mo_second 19 = .ok (.if_icmp .eq 15, 3) := by decide +kernel
theorem d_Mo_second_22 : decode b_Mo_second 22 = .ok (.iload_n 2, 1) := by decide +kernel
theorem d_Mo_second_23 : decode b_Mo_second 23 = .ok (.bipush 17, 2) := by decide +kernel
theorem d_Mo_second_25 : decode b_Mo_second 25 = .ok (.if_icmp .eq 9, 3) := by decide +kernel
theorem d_Mo_second_28 : decode b_Mo_second 28 = .ok (.iload_n 2, 1) := by decide +kernel
theorem d_Mo_second_29 : decode b_Mo_second 29 = .ok (.bipush 18, 2) := by decide +kernel
theorem d_Mo_second_31 : decode b_Mo_second 31 = .ok (.if_icmp .ne 10, 3) := by decide +kernel
theorem d_Mo_second_34 : decode b_Mo_second 34 = .ok (.aload_n 0, 1) := by decide +kernel
theorem d_Mo_second_35 : decode b_Mo_second 35 = .ok (.getfield 19, 3) := by decide +kernel
theorem d_Mo_second_38 : decode b_Mo_second 38 = .ok (.iload_n 1, 1) := by decide +kernel
theorem d_Mo_second_39 : decode b_Mo_second 39 = .ok (.iaload, 1) := by decide +kernel
theorem d_Mo_second_40 : decode b_Mo_second 40 = .ok (.ireturn, 1) := by decide +kernel
theorem d_Mo_second_41 : decode b_Mo_second 41 = .ok (.iload_n 2, 1) := by decide +kernel
theorem d_Mo_second_42 : decode b_Mo_second 42 = .ok (.bipush 9, 2) := by decide +kernel
theorem d_Mo_second_44 : decode b_Mo_second 44 = .ok (.if_icmp .eq 14, 3) := by decide +kernel
theorem d_Mo_second_47 : decode b_Mo_second 47 = .ok (.iload_n 2, 1) := by decide +kernel
theorem d_Mo_second_48 : decode b_Mo_second 48 = .ok (.bipush 10, 2) := by decide +kernel
theorem d_Mo_second_50 : decode b_Mo_second 50 = .ok (.bipush 14, 2) := by decide +kernel
theorem d_Mo_second_52 : decode b_Mo_second 52 = .ok (.invokestatic 101, 3) := by decide +kernel
theorem d_Mo_second_55 : decode b_Mo_second 55 = .ok (.ifCond .eq 17, 3) := by decide +kernel
theorem d_Mo_second_58 : decode b_Mo_second 58 = .ok (.bipush 8, 2) := by decide +kernel
theorem d_Mo_second_60 : decode b_Mo_second 60 = .ok (.aload_n 0, 1) := by decide +kernel
theorem d_Mo_second_61 : decode b_Mo_second 61 = .ok (.getfield 19, 3) := by decide +kernel
theorem d_Mo_second_64 : decode b_Mo_second 64 = .ok (.iload_n 1, 1) := by decide +kernel
theorem d_Mo_second_65 : decode b_Mo_second 65 = .ok (.iaload, 1) := by decide +kernel
theorem d_Mo_second_66 : decode b_Mo_second 66 = .ok (.iconst 4, 1) := by decide +kernel
theorem d_Mo_second_67 : decode b_Mo_second 67 = .ok (.irem, 1) := by decide +kernel
theorem d_Mo_second_68 : decode b_Mo_second 68 = .ok (.iadd, 1) := by decide +kernel
theorem d_Mo_second_69 : decode b_Mo_second 69 = .ok (.goto 4, 3) := by decide +kernel
theorem d_Mo_second_72 : decode b_Mo_second 72 = .ok (.iconst 0, 1) := by decide +kernel
theorem d_Mo_second_73 : decode b_Mo_second 73 = .ok (.ireturn, 1) := by decide +kernel
theorem d_Mo_target_0 : decode b_Mo_target 0 = .ok (.aload_n 0, 1) := by decide +kernel
theorem d_Mo_target_1 : decode b_Mo_target 1 = .ok (.getfield 7, 3) := by decide +kernel
theorem d_Mo_target_4 : decode b_Mo_target 4 = .ok (.iload_n 1, 1) := by decide +kernel
theorem d_Mo_target_5 : decode b_Mo_target 5 = .ok (.iaload, 1) := by decide +kernel
theorem d_Mo_target_6 : decode b_Mo_target 6 = .ok (.istore_n 2, 1) := by decide +kernel
theorem d_Mo_target_7 : decode b_Mo_target 7 = .ok (.iload_n 2, 1) := by decide +kernel
theorem d_Mo_target_8 : decode b_Mo_target 8 = .ok (.iconst 1, 1) := by decide +kernel
theorem d_Mo_target_9 : decode b_Mo_target 9 = .ok (.bipush 6, 2) := by decide +kernel
theorem d_Mo_target_11 : decode b_Mo_target 11 = .ok (.invokestatic 101, 3) := by decide +kernel
theorem d_Mo_target_14 : decode b_Mo_target 14 = .ok (.ifCond .ne 15, 3) := by decide +kernel
theorem d_Mo_target_17 : decode b_Mo_target 17 = .ok (.iload_n 2, 1) := by decide +kernel
theorem d_Mo_target_18 : decode b_Mo_target 18 = .ok (.bipush 14, 2) := by decide +kernel
theorem d_Mo_target_20 : decode b_Mo_target 20 = .ok (.if_icmp .eq 9, 3) := by decide +kernel
theorem d_Mo_target_23 : decode b_Mo_target 23 = .ok (.iload_n 2, 1) := by decide +kernel
theorem d_Mo_target_24 : decode b_Mo_target 24 = .ok (.bipush 16, 2) := by decide +kernel
theorem d_Mo_target_26 : decode b_Mo_target 26 = .ok (.if_icmp .ne 10, 3) := by decide +kernel
theorem d_Mo_target_29 : decode b_Mo_target 29 = .ok (.aload_n 0, 1) := by decide +kernel
theorem d_Mo_target_30 : decode b_Mo_target 30 = .ok (.getfield 13, 3) := by decide +kernel
theorem d_Mo_target_33 : decode b_Mo_target 33 = .ok (.iload_n 1, 1) := by decide +kernel
theorem d_Mo_target_34 : decode b_Mo_target 34 = .ok (.iaload, 1) := by decide +kernel
theorem d_Mo_target_35 : decode b_Mo_target 35 = .ok (.ireturn, 1) := by decide +kernel
theorem d_Mo_target_36 : decode b_Mo_target 36 = .ok (.iload_n 2, 1) := by decide +kernel
theorem d_Mo_target_37 : decode b_Mo_target 37 = .ok (.bipush 8, 2) := by decide +kernel
theorem d_Mo_target_39 : decode b_Mo_target 39 = .ok (.if_icmp .eq 20, 3) := by decide +kernel
theorem d_Mo_target_42 : decode b_Mo_target 42 = .ok (.iload_n 2, 1) := by decide +kernel
theorem d_Mo_target_43 : decode b_Mo_target 43 = .ok (.bipush 10, 2) := by decide +kernel
theorem d_Mo_target_45 : decode b_Mo_target 45 = .ok (.bipush 13, 2) := by decide +kernel
theorem d_Mo_target_47 : decode b_Mo_target 47 = .ok (.invokestatic 101, 3) := by decide +kernel
theorem d_Mo_target_50 : decode b_Mo_target 50 = .ok (.ifCond .ne 9, 3) := by decide +kernel
theorem d_Mo_target_53 : decode b_Mo_target 53 = .ok (.iload_n 2, 1) := by decide +kernel
theorem d_Mo_target_54 : decode b_Mo_target 54 = .ok (.bipush 15, 2) := by decide +kernel
theorem d_Mo_target_56 : decode b_Mo_target 56 = .ok (.if_icmp .ne 17, 3) := by decide +kernel
theorem d_Mo_target_59 : decode b_Mo_target 59 = .ok (.bipush 8, 2) := by decide +kernel
theorem d_Mo_target_61 : decode b_Mo_target 61 = .ok (.aload_n 0, 1) := by decide +kernel
theorem d_Mo_target_62 : decode b_Mo_target 62 = .ok (.getfield 13, 3) := by decide +kernel
theorem d_Mo_target_65 : decode b_Mo_target 65 = .ok (.iload_n 1, 1) := by decide +kernel
theorem d_Mo_target_66 : decode b_Mo_target 66 = .ok (.iaload, 1) := by decide +kernel
theorem d_Mo_target_67 : decode b_Mo_target 67 = .ok (.iconst 4, 1) := by decide +kernel
theorem d_Mo_target_68 : decode b_Mo_target 68 = .ok (.irem, 1) := by decide +kernel
theorem d_Mo_target_69 : decode b_Mo_target 69 = .ok (.iadd, 1) := by decide +kernel
theorem d_Mo_target_70 : decode b_Mo_target 70 = .ok (.goto 4, 3) := by decide +kernel
theorem d_Mo_target_73 : decode b_Mo_target 73 = .ok (.iconst 0, 1) := by decide +kernel
theorem d_Mo_target_74 : decode b_Mo_target 74 = .ok (.ireturn, 1) := by decide +kernel
theorem d_Mo_latency_0 : decode b_Mo_latency 0 = .ok (.aload_n 0, 1) := by decide +kernel
theorem d_Mo_latency_1 : decode b_Mo_latency 1 = .ok (.getfield 7, 3) := by decide +kernel
theorem d_Mo_latency_4 : decode b_Mo_latency 4 = .ok (.iload_n 1, 1) := by decide +kernel
theorem d_Mo_latency_5 : decode b_Mo_latency 5 = .ok (.iaload, 1) := by decide +kernel
theorem d_Mo_latency_6 : decode b_Mo_latency 6 = .ok (.istore_n 2, 1) := by decide +kernel
theorem d_Mo_latency_7 : decode b_Mo_latency 7 = .ok (.iload_n 2, 1) := by decide +kernel
theorem d_Mo_latency_8 : decode b_Mo_latency 8 = .ok (.bipush 6, 2) := by decide +kernel
theorem d_Mo_latency_10 : decode b_Mo_latency 10 = .ok (.if_icmp .ge 5, 3) := by decide +kernel
theorem d_Mo_latency_13 : decode b_Mo_latency 13 = .ok (.iconst 1, 1) := by decide +kernel
theorem d_Mo_latency_14 : decode b_Mo_latency 14 = .ok (.ireturn, 1) := by decide +kernel
theorem d_Mo_latency_15 : decode b_Mo_latency 15 = .ok (.iload_n 2, 1) := by decide +kernel
theorem d_Mo_latency_16 : decode b_Mo_latency 16 = .ok (.bipush 6, 2) := by decide +kernel
theorem d_Mo_latency_18 : decode b_Mo_latency 18 = .ok (.if_icmp .eq 9, 3) := by decide +kernel
theorem d_Mo_latency_21 : decode b_Mo_latency 21 = .ok (.iload_n 2, 1) := by decide +kernel
theorem d_Mo_latency_22 : decode b_Mo_latency 22 = .ok (.bipush 8, 2) := by decide +kernel
theorem d_Mo_latency_24 : decode b_Mo_latency 24 = .ok (.if_icmp .ne 5, 3) := by decide +kernel
theorem d_Mo_latency_27 : decode b_Mo_latency 27 = .ok (.iconst 2, 1) := by decide +kernel
theorem d_Mo_latency_28 : decode b_Mo_latency 28 = .ok (.ireturn, 1) := by decide +kernel
theorem d_Mo_latency_29 : decode b_Mo_latency 29 = .ok (.iload_n 2, 1) := by decide +kernel
theorem d_Mo_latency_30 : decode b_Mo_latency 30 = .ok (.bipush 12, 2) := by decide +kernel
theorem d_Mo_latency_32 : decode b_Mo_latency 32 = .ok (.if_icmp .ne 7, 3) := by decide +kernel
theorem d_Mo_latency_35 : decode b_Mo_latency 35 = .ok (.iconst 4, 1) := by decide +kernel
theorem d_Mo_latency_36 : decode b_Mo_latency 36 = .ok (.goto 15, 3) := by decide +kernel
theorem d_Mo_latency_39 : decode b_Mo_latency 39 = .ok (.iload_n 2, 1) := by decide +kernel
theorem d_Mo_latency_40 : decode b_Mo_latency 40 = .ok (.bipush 13, 2) := by decide +kernel
theorem d_Mo_latency_42 : decode b_Mo_latency 42 = .ok (.if_icmp .ne 8, 3) := by decide +kernel
theorem d_Mo_latency_45 : decode b_Mo_latency 45 = .ok (.bipush 8, 2) := by decide +kernel
theorem d_Mo_latency_47 : decode b_Mo_latency 47 = .ok (.goto 4, 3) := by decide +kernel
theorem d_Mo_latency_50 : decode b_Mo_latency 50 = .ok (.iconst 3, 1) := by decide +kernel
theorem d_Mo_latency_51 : decode b_Mo_latency 51 = .ok (.ireturn, 1) := by decide +kernel
theorem d_Mo_missGroup_0 : decode b_Mo_missGroup 0 = .ok (.iload_n 1, 1) := by decide +kernel
theorem d_Mo_missGroup_1 : decode b_Mo_missGroup 1 = .ok (.iconst 4, 1) := by decide +kernel
theorem d_Mo_missGroup_2 : decode b_Mo_missGroup 2 = .ok (.idiv, 1) := by decide +kernel
theorem d_Mo_missGroup_3 : decode b_Mo_missGroup 3 = .ok (.istore_n 2, 1) := by decide +kernel
theorem d_Mo_missGroup_4 : decode b_Mo_missGroup 4 = .ok (.aload_n 0, 1) := by decide +kernel
theorem d_Mo_missGroup_5 : decode b_Mo_missGroup 5 = .ok (.getfield 31, 3) := by decide +kernel
theorem d_Mo_missGroup_8 : decode b_Mo_missGroup 8 = .ok (.iload_n 2, 1) := by decide +kernel
theorem d_Mo_missGroup_9 : decode b_Mo_missGroup 9 = .ok (.iconst 2, 1) := by decide +kernel
theorem d_Mo_missGroup_10 : decode b_Mo_missGroup 10 = .ok (.irem, 1) := by decide +kernel
theorem d_Mo_missGroup_11 : decode b_Mo_missGroup 11 = .ok (.iaload, 1) := by decide +kernel
theorem d_Mo_missGroup_12 : decode b_Mo_missGroup 12 = .ok (.iload_n 2, 1) := by decide +kernel
theorem d_Mo_missGroup_13 : decode b_Mo_missGroup 13 = .ok (.if_icmp .ne 5, 3) := by decide +kernel
theorem d_Mo_missGroup_16 : decode b_Mo_missGroup 16 = .ok (.iconst 0, 1) := by decide +kernel
theorem d_Mo_missGroup_17 : decode b_Mo_missGroup 17 = .ok (.ireturn, 1) := by decide +kernel
theorem d_Mo_missGroup_18 : decode b_Mo_missGroup 18 = .ok (.aload_n 0, 1) := by decide +kernel
theorem d_Mo_missGroup_19 : decode b_Mo_missGroup 19 = .ok (.getfield 31, 3) := by decide +kernel
theorem d_Mo_missGroup_22 : decode b_Mo_missGroup 22 = .ok (.iload_n 2, 1) := by decide +kernel
theorem d_Mo_missGroup_23 : decode b_Mo_missGroup 23 = .ok (.iconst 2, 1) := by decide +kernel
theorem d_Mo_missGroup_24 : decode b_Mo_missGroup 24 = .ok (.irem, 1) := by decide +kernel
theorem d_Mo_missGroup_25 : decode b_Mo_missGroup 25 = .ok (.iload_n 2, 1) := by decide +kernel
theorem d_Mo_missGroup_26 : decode b_Mo_missGroup 26 = .ok (.iastore, 1) := by decide +kernel
theorem d_Mo_missGroup_27 : decode b_Mo_missGroup 27 = .ok (.aload_n 0, 1) := by decide +kernel
theorem d_Mo_missGroup_28 : decode b_Mo_missGroup 28 = .ok (.dup, 1) := by decide +kernel
theorem d_Mo_missGroup_29 : decode b_Mo_missGroup 29 = .ok (.getfield 92, 3) := by decide +kernel
theorem d_Mo_missGroup_32 : decode b_Mo_missGroup 32 = .ok (.iconst 1, 1) := by decide +kernel
theorem d_Mo_missGroup_33 : decode b_Mo_missGroup 33 = .ok (.iadd, 1) := by decide +kernel
theorem d_Mo_missGroup_34 : decode b_Mo_missGroup 34 = .ok (.putfield 92, 3) := by decide +kernel
theorem d_Mo_missGroup_37 : decode b_Mo_missGroup 37 = .ok (.iconst 1, 1) := by decide +kernel
theorem d_Mo_missGroup_38 : decode b_Mo_missGroup 38 = .ok (.ireturn, 1) := by decide +kernel
theorem d_Mo_missLine_0 : decode b_Mo_missLine 0 = .ok (.iload_n 1, 1) := by decide +kernel
theorem d_Mo_missLine_1 : decode b_Mo_missLine 1 = .ok (.iconst 4, 1) := by decide +kernel
theorem d_Mo_missLine_2 : decode b_Mo_missLine 2 = .ok (.idiv, 1) := by decide +kernel
theorem d_Mo_missLine_3 : decode b_Mo_missLine 3 = .ok (.istore_n 2, 1) := by decide +kernel
theorem d_Mo_missLine_4 : decode b_Mo_missLine 4 = .ok (.iload_n 2, 1) := by decide +kernel
theorem d_Mo_missLine_5 : decode b_Mo_missLine 5 = .ok (.iconst 2, 1) := by decide +kernel
theorem d_Mo_missLine_6 : decode b_Mo_missLine 6 = .ok (.irem, 1) := by decide +kernel
theorem d_Mo_missLine_7 : decode b_Mo_missLine 7 = .ok (.iconst 2, 1) := by decide +kernel
theorem d_Mo_missLine_8 : decode b_Mo_missLine 8 = .ok (.imul, 1) := by decide +kernel
theorem d_Mo_missLine_9 : decode b_Mo_missLine 9 = .ok (.istore_n 3, 1) := by decide +kernel
theorem d_Mo_missLine_10 : decode b_Mo_missLine 10 = .ok (.aload_n 0, 1) := by decide +kernel
theorem d_Mo_missLine_11 : decode b_Mo_missLine 11 = .ok (.dup, 1) := by decide +kernel
theorem d_Mo_missLine_12 : decode b_Mo_missLine 12 = .ok (.getfield 77, 3) := by decide +kernel
theorem d_Mo_missLine_15 : decode b_Mo_missLine 15 = .ok (.iconst 1, 1) := by decide +kernel
theorem d_Mo_missLine_16 : decode b_Mo_missLine 16 = .ok (.iadd, 1) := by decide +kernel
theorem d_Mo_missLine_17 : decode b_Mo_missLine 17 = .ok (.putfield 77, 3) := by decide +kernel
theorem d_Mo_missLine_20 : decode b_Mo_missLine 20 = .ok (.iload_n 3, 1) := by decide +kernel
theorem d_Mo_missLine_21 : decode b_Mo_missLine 21 = .ok (.istore 4, 2) := by decide +kernel
theorem d_Mo_missLine_23 : decode b_Mo_missLine 23 = .ok (.iload 4, 2) := by decide +kernel
theorem d_Mo_missLine_25 : decode b_Mo_missLine 25 = .ok (.iload_n 3, 1) := by decide +kernel
theorem d_Mo_missLine_26 : decode b_Mo_missLine 26 = .ok (.iconst 2, 1) := by decide +kernel
theorem d_Mo_missLine_27 : decode b_Mo_missLine 27 = .ok (.iadd, 1) := by decide +kernel
theorem d_Mo_missLine_28 : decode b_Mo_missLine 28 = .ok (.if_icmp .ge 36, 3) := by decide +kernel
theorem d_Mo_missLine_31 : decode b_Mo_missLine 31 = .ok (.aload_n 0, 1) := by decide +kernel
theorem d_Mo_missLine_32 : decode b_Mo_missLine 32 = .ok (.getfield 34, 3) := by decide +kernel
theorem d_Mo_missLine_35 : decode b_Mo_missLine 35 = .ok (.iload 4, 2) := by decide +kernel
theorem d_Mo_missLine_37 : decode b_Mo_missLine 37 = .ok (.iaload, 1) := by decide +kernel
theorem d_Mo_missLine_38 : decode b_Mo_missLine 38 = .ok (.iload_n 2, 1) := by decide +kernel
theorem d_Mo_missLine_39 : decode b_Mo_missLine 39 = .ok (.if_icmp .eq 6, 3) := by decide +kernel
theorem d_Mo_missLine_42 : decode b_Mo_missLine 42 = .ok (.goto 16, 3) := by decide +kernel
theorem d_Mo_missLine_45 : decode b_Mo_missLine 45 = .ok (.aload_n 0, 1) := by decide +kernel
theorem d_Mo_missLine_46 : decode b_Mo_missLine 46 = .ok (.getfield 37, 3) := by decide +kernel
theorem d_Mo_missLine_49 : decode b_Mo_missLine 49 = .ok (.iload 4, 2) := by decide +kernel
theorem d_Mo_missLine_51 : decode b_Mo_missLine 51 = .ok (.aload_n 0, 1) := by decide +kernel
theorem d_Mo_missLine_52 : decode b_Mo_missLine 52 = .ok (.getfield 77, 3) := by decide +kernel
theorem d_Mo_missLine_55 : decode b_Mo_missLine 55 = .ok (.iastore, 1) := by decide +kernel
theorem d_Mo_missLine_56 : decode b_Mo_missLine 56 = .ok (.iconst 0, 1) := by decide +kernel
theorem d_Mo_missLine_57 : decode b_Mo_missLine 57 = .ok (.ireturn, 1) := by decide +kernel
theorem d_Mo_missLine_58 : decode b_Mo_missLine 58 = .ok (.iinc 4 1, 3) := by decide +kernel
theorem d_Mo_missLine_61 : decode b_Mo_missLine 61 = .ok (.goto (-38), 3) := by decide +kernel
theorem d_Mo_missLine_64 : decode b_Mo_missLine 64 = .ok (.aload_n 0, 1) := by decide +kernel
theorem d_Mo_missLine_65 : decode b_Mo_missLine 65 = .ok (.getfield 34, 3) := by decide +kernel
theorem d_Mo_missLine_68 : decode b_Mo_missLine 68 = .ok (.iload_n 3, 1) := by decide +kernel
theorem d_Mo_missLine_69 : decode b_Mo_missLine 69 = .ok (.iaload, 1) := by decide +kernel
theorem d_Mo_missLine_70 : decode b_Mo_missLine 70 = .ok (.ifCond .lt 31, 3) := by decide +kernel
theorem d_Mo_missLine_73 : decode b_Mo_missLine 73 = .ok (.aload_n 0, 1) := by decide +kernel
theorem d_Mo_missLine_74 : decode b_Mo_missLine 74 = .ok (.getfield 34, 3) := by decide +kernel
theorem d_Mo_missLine_77 : decode b_Mo_missLine 77 = .ok (.iload_n 3, 1) := by decide +kernel
theorem d_Mo_missLine_78 : decode b_Mo_missLine 78 = .ok (.iconst 1, 1) := by decide +kernel
theorem d_Mo_missLine_79 : decode b_Mo_missLine 79 = .ok (.iadd, 1) := by decide +kernel
theorem d_Mo_missLine_80 : decode b_Mo_missLine 80 = .ok (.iaload, 1) := by decide +kernel
theorem d_Mo_missLine_81 : decode b_Mo_missLine 81 = .ok (.ifCond .lt 24, 3) := by decide +kernel
theorem d_Mo_missLine_84 : decode b_Mo_missLine 84 = .ok (.aload_n 0, 1) := by decide +kernel
theorem d_Mo_missLine_85 : decode b_Mo_missLine 85 = .ok (.getfield 37, 3) := by decide +kernel
theorem d_Mo_missLine_88 : decode b_Mo_missLine 88 = .ok (.iload_n 3, 1) := by decide +kernel
theorem d_Mo_missLine_89 : decode b_Mo_missLine 89 = .ok (.iaload, 1) := by decide +kernel
theorem d_Mo_missLine_90 : decode b_Mo_missLine 90 = .ok (.aload_n 0, 1) := by decide +kernel
theorem d_Mo_missLine_91 : decode b_Mo_missLine 91 = .ok (.getfield 37, 3) := by decide +kernel
theorem d_Mo_missLine_94 : decode b_Mo_missLine 94 = .ok (.iload_n 3, 1) := by decide +kernel
theorem d_Mo_missLine_95 : decode b_Mo_missLine 95 = .ok (.iconst 1, 1) := by decide +kernel
theorem d_Mo_missLine_96 : decode b_Mo_missLine 96 = .ok (.iadd, 1) := by decide +kernel
theorem d_Mo_missLine_97 : decode b_Mo_missLine 97 = .ok (.iaload, 1) := by decide +kernel
theorem d_Mo_missLine_98 : decode b_Mo_missLine 98 = .ok (.if_icmp .ge 7, 3) := by decide +kernel
theorem d_Mo_missLine_101 : decode b_Mo_missLine 101 = .ok (.iload_n 3, 1) := by decide +kernel
theorem d_Mo_missLine_102 : decode b_Mo_missLine 102 = .ok (.goto 6, 3) := by decide +kernel
theorem d_Mo_missLine_105 : decode b_Mo_missLine 105 = .ok (.iload_n 3, 1) := by decide +kernel
theorem d_Mo_missLine_106 : decode b_Mo_missLine 106 = .ok (.iconst 1, 1) := by decide +kernel
theorem d_Mo_missLine_107 : decode b_Mo_missLine 107 = .ok (.iadd, 1) := by decide +kernel
theorem d_Mo_missLine_108 : decode b_Mo_missLine 108 = .ok (.istore 4, 2) := by decide +kernel
theorem d_Mo_missLine_110 : decode b_Mo_missLine 110 = .ok (.aload_n 0, 1) := by decide +kernel
theorem d_Mo_missLine_111 : decode b_Mo_missLine 111 = .ok (.getfield 34, 3) := by decide +kernel
theorem d_Mo_missLine_114 : decode b_Mo_missLine 114 = .ok (.iload 4, 2) := by decide +kernel
theorem d_Mo_missLine_116 : decode b_Mo_missLine 116 = .ok (.iload_n 2, 1) := by decide +kernel
theorem d_Mo_missLine_117 : decode b_Mo_missLine 117 = .ok (.iastore, 1) := by decide +kernel
theorem d_Mo_missLine_118 : decode b_Mo_missLine 118 = .ok (.aload_n 0, 1) := by decide +kernel
theorem d_Mo_missLine_119 : decode b_Mo_missLine 119 = .ok (.getfield 37, 3) := by decide +kernel
theorem d_Mo_missLine_122 : decode b_Mo_missLine 122 = .ok (.iload 4, 2) := by decide +kernel
theorem d_Mo_missLine_124 : decode b_Mo_missLine 124 = .ok (.aload_n 0, 1) := by decide +kernel
theorem d_Mo_missLine_125 : decode b_Mo_missLine 125 = .ok (.getfield 77, 3) := by decide +kernel
theorem d_Mo_missLine_128 : decode b_Mo_missLine 128 = .ok (.iastore, 1) := by decide +kernel
theorem d_Mo_missLine_129 : decode b_Mo_missLine 129 = .ok (.aload_n 0, 1) := by decide +kernel
theorem d_Mo_missLine_130 : decode b_Mo_missLine 130 = .ok (.dup, 1) := by decide +kernel
theorem d_Mo_missLine_131 : decode b_Mo_missLine 131 = .ok (.getfield 89, 3) := by decide +kernel
theorem d_Mo_missLine_134 : decode b_Mo_missLine 134 = .ok (.iconst 1, 1) := by decide +kernel
theorem d_Mo_missLine_135 : decode b_Mo_missLine 135 = .ok (.iadd, 1) := by decide +kernel
theorem d_Mo_missLine_136 : decode b_Mo_missLine 136 = .ok (.putfield 89, 3) := by decide +kernel
theorem d_Mo_missLine_139 : decode b_Mo_missLine 139 = .ok (.iconst 1, 1) := by decide +kernel
theorem d_Mo_missLine_140 : decode b_Mo_missLine 140 = .ok (.ireturn, 1) := by decide +kernel
theorem d_Mo_later_0 : decode b_Mo_later 0 = .ok (.iload_n 0, 1) := by decide +kernel
theorem d_Mo_later_1 : decode b_Mo_later 1 = .ok (.iload_n 1, 1) := by decide +kernel
theorem d_Mo_later_2 : decode b_Mo_later 2 = .ok (.if_icmp .le 7, 3) := by decide +kernel
theorem d_Mo_later_5 : decode b_Mo_later 5 = .ok (.iload_n 0, 1) := by decide +kernel
theorem d_Mo_later_6 : decode b_Mo_later 6 = .ok (.goto 4, 3) := by decide +kernel
theorem d_Mo_later_9 : decode b_Mo_later 9 = .ok (.iload_n 1, 1) := by decide +kernel
theorem d_Mo_later_10 : decode b_Mo_later 10 = .ok (.ireturn, 1) := by decide +kernel
theorem d_Mo_put_0 : decode b_Mo_put 0 = .ok (.iload_n 1, 1) := by decide +kernel
theorem d_Mo_put_1 : decode b_Mo_put 1 = .ok (.ifCond .le 10, 3) := by decide +kernel
theorem d_Mo_put_4 : decode b_Mo_put 4 = .ok (.aload_n 0, 1) := by decide +kernel
theorem d_Mo_put_5 : decode b_Mo_put 5 = .ok (.getfield 25, 3) := by decide +kernel
theorem d_Mo_put_8 : decode b_Mo_put 8 = .ok (.iload_n 1, 1) := by decide +kernel
theorem d_Mo_put_9 : decode b_Mo_put 9 = .ok (.iload_n 2, 1) := by decide +kernel
theorem d_Mo_put_10 : decode b_Mo_put 10 = .ok (.iastore, 1) := by decide +kernel
theorem d_Mo_put_11 : decode b_Mo_put 11 = .ok (.return_, 1) := by decide +kernel
theorem d_Mo_reckon_0 : decode b_Mo_reckon 0 = .ok (.iload_n 1, 1) := by decide +kernel
theorem d_Mo_reckon_1 : decode b_Mo_reckon 1 = .ok (.bipush 10, 2) := by decide +kernel
theorem d_Mo_reckon_3 : decode b_Mo_reckon 3 = .ok (.if_icmp .ne 10, 3) := by decide +kernel
theorem d_Mo_reckon_6 : decode b_Mo_reckon 6 = .ok (.dload_n 2, 1) := by decide +kernel
theorem d_Mo_reckon_7 : decode b_Mo_reckon 7 = .ok (.dload 4, 2) := by decide +kernel
theorem d_Mo_reckon_9 : decode b_Mo_reckon 9 = .ok (.dadd, 1) := by decide +kernel
theorem d_Mo_reckon_10 : decode b_Mo_reckon 10 = .ok (.goto 33, 3) := by decide +kernel
theorem d_Mo_reckon_13 : decode b_Mo_reckon 13 = .ok (.iload_n 1, 1) := by decide +kernel
theorem d_Mo_reckon_14 : decode b_Mo_reckon 14 = .ok (.bipush 11, 2) := by decide +kernel
theorem d_Mo_reckon_16 : decode b_Mo_reckon 16 = .ok (.if_icmp .ne 10, 3) := by decide +kernel
theorem d_Mo_reckon_19 : decode b_Mo_reckon 19 = .ok (.dload_n 2, 1) := by decide +kernel
theorem d_Mo_reckon_20 : decode b_Mo_reckon 20 = .ok (.dload 4, 2) := by decide +kernel
theorem d_Mo_reckon_22 : decode b_Mo_reckon 22 = .ok (.dsub, 1) := by decide +kernel
theorem d_Mo_reckon_23 : decode b_Mo_reckon 23 = .ok (.goto 20, 3) := by decide +kernel
theorem d_Mo_reckon_26 : decode b_Mo_reckon 26 = .ok (.iload_n 1, 1) := by decide +kernel
theorem d_Mo_reckon_27 : decode b_Mo_reckon 27 = .ok (.bipush 12, 2) := by decide +kernel
theorem d_Mo_reckon_29 : decode b_Mo_reckon 29 = .ok (.if_icmp .ne 10, 3) := by decide +kernel
theorem d_Mo_reckon_32 : decode b_Mo_reckon 32 = .ok (.dload_n 2, 1) := by decide +kernel
theorem d_Mo_reckon_33 : decode b_Mo_reckon 33 = .ok (.dload 4, 2) := by decide +kernel
theorem d_Mo_reckon_35 : decode b_Mo_reckon 35 = .ok (.dmul, 1) := by decide +kernel
theorem d_Mo_reckon_36 : decode b_Mo_reckon 36 = .ok (.goto 7, 3) := by decide +kernel
theorem d_Mo_reckon_39 : decode b_Mo_reckon 39 = .ok (.dload_n 2, 1) := by decide +kernel
theorem d_Mo_reckon_40 : decode b_Mo_reckon 40 = .ok (.dload 4, 2) := by decide +kernel
theorem d_Mo_reckon_42 : decode b_Mo_reckon 42 = .ok (.ddiv, 1) := by decide +kernel
theorem d_Mo_reckon_43 : decode b_Mo_reckon 43 = .ok (.dreturn, 1) := by decide +kernel
theorem d_Mo_compute_0 : decode b_Mo_compute 0 = .ok (.aload_n 0, 1) := by decide +kernel
theorem d_Mo_compute_1 : decode b_Mo_compute 1 = .ok (.getfield 7, 3) := by decide +kernel
theorem d_Mo_compute_4 : decode b_Mo_compute 4 = .ok (.iload_n 1, 1) := by decide +kernel
theorem d_Mo_compute_5 : decode b_Mo_compute 5 = .ok (.iaload, 1) := by decide +kernel
theorem d_Mo_compute_6 : decode b_Mo_compute 6 = .ok (.istore_n 2, 1) := by decide +kernel
theorem d_Mo_compute_7 : decode b_Mo_compute 7 = .ok (.aload_n 0, 1) := by decide +kernel
theorem d_Mo_compute_8 : decode b_Mo_compute 8 = .ok (.getfield 25, 3) := by decide +kernel
theorem d_Mo_compute_11 : decode b_Mo_compute 11 = .ok (.aload_n 0, 1) := by decide +kernel
theorem d_Mo_compute_12 : decode b_Mo_compute 12 = .ok (.getfield 16, 3) := by decide +kernel
theorem d_Mo_compute_15 : decode b_Mo_compute 15 = .ok (.iload_n 1, 1) := by decide +kernel
theorem d_Mo_compute_16 : decode b_Mo_compute 16 = .ok (.iaload, 1) := by decide +kernel
theorem d_Mo_compute_17 : decode b_Mo_compute 17 = .ok (.iaload, 1) := by decide +kernel
theorem d_Mo_compute_18 : decode b_Mo_compute 18 = .ok (.istore_n 3, 1) := by decide +kernel
theorem d_Mo_compute_19 : decode b_Mo_compute 19 = .ok (.aload_n 0, 1) := by decide +kernel
theorem d_Mo_compute_20 : decode b_Mo_compute 20 = .ok (.getfield 25, 3) := by decide +kernel
theorem d_Mo_compute_23 : decode b_Mo_compute 23 = .ok (.aload_n 0, 1) := by decide +kernel
theorem d_Mo_compute_24 : decode b_Mo_compute 24 = .ok (.getfield 19, 3) := by decide +kernel
theorem d_Mo_compute_27 : decode b_Mo_compute 27 = .ok (.iload_n 1, 1) := by decide +kernel
theorem d_Mo_compute_28 : decode b_Mo_compute 28 = .ok (.iaload, 1) := by decide +kernel
theorem d_Mo_compute_29 : decode b_Mo_compute 29 = .ok (.iaload, 1) := by decide +kernel
theorem d_Mo_compute_30 : decode b_Mo_compute 30 = .ok (.istore 4, 2) := by decide +kernel
theorem d_Mo_compute_32 : decode b_Mo_compute 32 = .ok (.aload_n 0, 1) := by decide +kernel
theorem d_Mo_compute_33 : decode b_Mo_compute 33 = .ok (.getfield 43, 3) := by decide +kernel
theorem d_Mo_compute_36 : decode b_Mo_compute 36 = .ok (.aload_n 0, 1) := by decide +kernel
theorem d_Mo_compute_37 : decode b_Mo_compute 37 = .ok (.getfield 16, 3) := by decide +kernel
theorem d_Mo_compute_40 : decode b_Mo_compute 40 = .ok (.iload_n 1, 1) := by decide +kernel
theorem d_Mo_compute_41 : decode b_Mo_compute 41 = .ok (.iaload, 1) := by decide +kernel
theorem d_Mo_compute_42 : decode b_Mo_compute 42 = .ok (.iconst 4, 1) := by decide +kernel
theorem d_Mo_compute_43 : decode b_Mo_compute 43 = .ok (.irem, 1) := by decide +kernel
theorem d_Mo_compute_44 : decode b_Mo_compute 44 = .ok (.daload, 1) := by decide +kernel
theorem d_Mo_compute_45 : decode b_Mo_compute 45 = .ok (.dstore 5, 2) := by decide +kernel
theorem d_Mo_compute_47 : decode b_Mo_compute 47 = .ok (.aload_n 0, 1) := by decide +kernel
theorem d_Mo_compute_48 : decode b_Mo_compute 48 = .ok (.getfield 43, 3) := by decide +kernel
theorem d_Mo_compute_51 : decode b_Mo_compute 51 = .ok (.aload_n 0, 1) := by decide +kernel
theorem d_Mo_compute_52 : decode b_Mo_compute 52 = .ok (.getfield 19, 3) := by decide +kernel
theorem d_Mo_compute_55 : decode b_Mo_compute 55 = .ok (.iload_n 1, 1) := by decide +kernel
theorem d_Mo_compute_56 : decode b_Mo_compute 56 = .ok (.iaload, 1) := by decide +kernel
theorem d_Mo_compute_57 : decode b_Mo_compute 57 = .ok (.iconst 4, 1) := by decide +kernel
theorem d_Mo_compute_58 : decode b_Mo_compute 58 = .ok (.irem, 1) := by decide +kernel
theorem d_Mo_compute_59 : decode b_Mo_compute 59 = .ok (.daload, 1) := by decide +kernel
theorem d_Mo_compute_60 : decode b_Mo_compute 60 = .ok (.dstore 7, 2) := by decide +kernel
theorem d_Mo_compute_62 : decode b_Mo_compute 62 = .ok (.iload_n 3, 1) := by decide +kernel
theorem d_Mo_compute_63 : decode b_Mo_compute 63 = .ok (.aload_n 0, 1) := by decide +kernel
theorem d_Mo_compute_64 : decode b_Mo_compute 64 = .ok (.getfield 22, 3) := by decide +kernel
theorem d_Mo_compute_67 : decode b_Mo_compute 67 = .ok (.iload_n 1, 1) := by decide +kernel
theorem d_Mo_compute_68 : decode b_Mo_compute 68 = .ok (.iaload, 1) := by decide +kernel
theorem d_Mo_compute_69 : decode b_Mo_compute 69 = .ok (.iadd, 1) := by decide +kernel
theorem d_Mo_compute_70 : decode b_Mo_compute 70 = .ok (.istore 9, 2) := by decide +kernel
theorem d_Mo_compute_72 : decode b_Mo_compute 72 = .ok (.iload_n 2, 1) := by decide +kernel
theorem d_Mo_compute_73 : decode b_Mo_compute 73 = .ok (.iconst 1, 1) := by decide +kernel
theorem d_Mo_compute_74 : decode b_Mo_compute 74 = .ok (.if_icmp .ne 21, 3) := by decide +kernel
theorem d_Mo_compute_77 : decode b_Mo_compute 77 = .ok (.aload_n 0, 1) := by decide +kernel
theorem d_Mo_compute_78 : decode b_Mo_compute 78 = .ok (.aload_n 0, 1) := by decide +kernel
theorem d_Mo_compute_79 : decode b_Mo_compute 79 = .ok (.getfield 13, 3) := by decide +kernel
theorem d_Mo_compute_82 : decode b_Mo_compute 82 = .ok (.iload_n 1, 1) := by decide +kernel
theorem d_Mo_compute_83 : decode b_Mo_compute 83 = .ok (.iaload, 1) := by decide +kernel
theorem d_Mo_compute_84 : decode b_Mo_compute 84 = .ok (.iload_n 3, 1) := by decide +kernel
theorem d_Mo_compute_85 : decode b_Mo_compute 85 = .ok (.aload_n 0, 1) := by decide +kernel
theorem d_Mo_compute_86 : decode b_Mo_compute 86 = .ok (.getfield 22, 3) := by decide +kernel
theorem d_Mo_compute_89 : decode b_Mo_compute 89 = .ok (.iload_n 1, 1) := by decide +kernel
theorem d_Mo_compute_90 : decode b_Mo_compute 90 = .ok (.iaload, 1) := by decide +kernel
theorem d_Mo_compute_91 : decode b_Mo_compute 91 = .ok (.iadd, 1) := by decide +kernel
theorem d_Mo_compute_92 : decode b_Mo_compute 92 = .ok (.invokevirtual 116, 3) := by decide +kernel
theorem d_Mo_compute_95 : decode b_Mo_compute 95 = .ok (.iload_n 2, 1) := by decide +kernel
theorem d_Mo_compute_96 : decode b_Mo_compute 96 = .ok (.iconst 2, 1) := by decide +kernel
theorem d_Mo_compute_97 : decode b_Mo_compute 97 = .ok (.if_icmp .ne 17, 3) := by decide +kernel
theorem d_Mo_compute_100 : decode b_Mo_compute 100 = .ok (.aload_n 0, 1) := by decide +kernel
theorem d_Mo_compute_101 : decode b_Mo_compute 101 = .ok (.aload_n 0, 1) := by decide +kernel
theorem d_Mo_compute_102 : decode b_Mo_compute 102 = .ok (.getfield 13, 3) := by decide +kernel
theorem d_Mo_compute_105 : decode b_Mo_compute 105 = .ok (.iload_n 1, 1) := by decide +kernel
theorem d_Mo_compute_106 : decode b_Mo_compute 106 = .ok (.iaload, 1) := by decide +kernel
theorem d_Mo_compute_107 : decode b_Mo_compute 107 = .ok (.iload_n 3, 1) := by decide +kernel
theorem d_Mo_compute_108 : decode b_Mo_compute 108 = .ok (.iload 4, 2) := by decide +kernel
theorem d_Mo_compute_110 : decode b_Mo_compute 110 = .ok (.iadd, 1) := by decide +kernel
theorem d_Mo_compute_111 : decode b_Mo_compute 111 = .ok (.invokevirtual 116, 3) := by decide +kernel
theorem d_Mo_compute_114 : decode b_Mo_compute 114 = .ok (.iload_n 2, 1) := by decide +kernel
theorem d_Mo_compute_115 : decode b_Mo_compute 115 = .ok (.iconst 3, 1) := by decide +kernel
theorem d_Mo_compute_116 : decode b_Mo_compute 116 = .ok (.if_icmp .ne 17, 3) := by decide +kernel
theorem d_Mo_compute_119 : decode b_Mo_compute 119 = .ok (.aload_n 0, 1) := by decide +kernel
theorem d_Mo_compute_120 : decode b_Mo_compute 120 = .ok (.aload_n 0, 1) := by decide +kernel
theorem d_Mo_compute_121 : decode b_Mo_compute 121 = .ok (.getfield 13, 3) := by decide +kernel
theorem d_Mo_compute_124 : decode b_Mo_compute 124 = .ok (.iload_n 1, 1) := by decide +kernel
theorem d_Mo_compute_125 : decode b_Mo_compute 125 = .ok (.iaload, 1) := by decide +kernel
theorem d_Mo_compute_126 : decode b_Mo_compute 126 = .ok (.iload_n 3, 1) := by decide +kernel
theorem d_Mo_compute_127 : decode b_Mo_compute 127 = .ok (.iload 4, 2) := by decide +kernel
theorem d_Mo_compute_129 : decode b_Mo_compute 129 = .ok (.isub, 1) := by decide +kernel
theorem d_Mo_compute_130 : decode b_Mo_compute 130 = .ok (.invokevirtual 116, 3) := by decide +kernel
theorem d_Mo_compute_133 : decode b_Mo_compute 133 = .ok (.iload_n 2, 1) := by decide +kernel
theorem d_Mo_compute_134 : decode b_Mo_compute 134 = .ok (.iconst 4, 1) := by decide +kernel
theorem d_Mo_compute_135 : decode b_Mo_compute 135 = .ok (.if_icmp .ne 17, 3) := by decide +kernel
theorem d_Mo_compute_138 : decode b_Mo_compute 138 = .ok (.aload_n 0, 1) := by decide +kernel
theorem d_Mo_compute_139 : decode b_Mo_compute 139 = .ok (.aload_n 0, 1) := by decide +kernel
theorem d_Mo_compute_140 : decode b_Mo_compute 140 = .ok (.getfield 13, 3) := by decide +kernel
theorem d_Mo_compute_143 : decode b_Mo_compute 143 = .ok (.iload_n 1, 1) := by decide +kernel
theorem d_Mo_compute_144 : decode b_Mo_compute 144 = .ok (.iaload, 1) := by decide +kernel
theorem d_Mo_compute_145 : decode b_Mo_compute 145 = .ok (.iload_n 3, 1) := by decide +kernel
theorem d_Mo_compute_146 : decode b_Mo_compute 146 = .ok (.iload 4, 2) := by decide +kernel
theorem d_Mo_compute_148 : decode b_Mo_compute 148 = .ok (.imul, 1) := by decide +kernel
theorem d_Mo_compute_149 : decode b_Mo_compute 149 = .ok (.invokevirtual 116, 3) := by decide +kernel
theorem d_Mo_compute_152 : decode b_Mo_compute 152 = .ok (.iload_n 2, 1) := by decide +kernel
theorem d_Mo_compute_153 : decode b_Mo_compute 153 = .ok (.iconst 5, 1) := by decide +kernel
theorem d_Mo_compute_154 : decode b_Mo_compute 154 = .ok (.if_icmp .ne 24, 3) := by decide +kernel
theorem d_Mo_compute_157 : decode b_Mo_compute 157 = .ok (.aload_n 0, 1) := by decide +kernel
theorem d_Mo_compute_158 : decode b_Mo_compute 158 = .ok (.aload_n 0, 1) := by decide +kernel
theorem d_Mo_compute_159 : decode b_Mo_compute 159 = .ok (.getfield 13, 3) := by decide +kernel
theorem d_Mo_compute_162 : decode b_Mo_compute 162 = .ok (.iload_n 1, 1) := by decide +kernel
theorem d_Mo_compute_163 : decode b_Mo_compute 163 = .ok (.iaload, 1) := by decide +kernel
theorem d_Mo_compute_164 : decode b_Mo_compute 164 = .ok (.iload_n 3, 1) := by decide +kernel
theorem d_Mo_compute_165 : decode b_Mo_compute 165 = .ok (.iload 4, 2) := by decide +kernel
theorem d_Mo_compute_167 : decode b_Mo_compute 167 = .ok (.if_icmp .ge 7, 3) := by decide +kernel
theorem d_Mo_compute_170 : decode b_Mo_compute 170 = .ok (.iconst 1, 1) := by decide +kernel
theorem d_Mo_compute_171 : decode b_Mo_compute 171 = .ok (.goto 4, 3) := by decide +kernel
theorem d_Mo_compute_174 : decode b_Mo_compute 174 = .ok (.iconst 0, 1) := by decide +kernel
theorem d_Mo_compute_175 : decode b_Mo_compute 175 = .ok (.invokevirtual 116, 3) := by decide +kernel
theorem d_Mo_compute_178 : decode b_Mo_compute 178 = .ok (.iload_n 2, 1) := by decide +kernel
theorem d_Mo_compute_179 : decode b_Mo_compute 179 = .ok (.bipush 6, 2) := by decide +kernel
theorem d_Mo_compute_181 : decode b_Mo_compute 181 = .ok (.if_icmp .ne 21, 3) := by decide +kernel
theorem d_Mo_compute_184 : decode b_Mo_compute 184 = .ok (.aload_n 0, 1) := by decide +kernel
theorem d_Mo_compute_185 : decode b_Mo_compute 185 = .ok (.aload_n 0, 1) := by decide +kernel
theorem d_Mo_compute_186 : decode b_Mo_compute 186 = .ok (.getfield 13, 3) := by decide +kernel
theorem d_Mo_compute_189 : decode b_Mo_compute 189 = .ok (.iload_n 1, 1) := by decide +kernel
theorem d_Mo_compute_190 : decode b_Mo_compute 190 = .ok (.iaload, 1) := by decide +kernel
theorem d_Mo_compute_191 : decode b_Mo_compute 191 = .ok (.aload_n 0, 1) := by decide +kernel
theorem d_Mo_compute_192 : decode b_Mo_compute 192 = .ok (.getfield 47, 3) := by decide +kernel
theorem d_Mo_compute_195 : decode b_Mo_compute 195 = .ok (.iload 9, 2) := by decide +kernel
theorem d_Mo_compute_197 : decode b_Mo_compute 197 = .ok (.daload, 1) := by decide +kernel
theorem d_Mo_compute_198 : decode b_Mo_compute 198 = .ok (.d2i, 1) := by decide +kernel
theorem d_Mo_compute_199 : decode b_Mo_compute 199 = .ok (.invokevirtual 116, 3) := by decide +kernel
theorem d_Mo_compute_202 : decode b_Mo_compute 202 = .ok (.iload_n 2, 1) := by decide +kernel
theorem d_Mo_compute_203 : decode b_Mo_compute 203 = .ok (.bipush 7, 2) := by decide +kernel
theorem d_Mo_compute_205 : decode b_Mo_compute 205 = .ok (.if_icmp .ne 13, 3) := by decide +kernel
theorem d_Mo_compute_208 : decode b_Mo_compute 208 = .ok (.aload_n 0, 1) := by decide +kernel
theorem d_Mo_compute_209 : decode b_Mo_compute 209 = .ok (.getfield 47, 3) := by decide +kernel
theorem d_Mo_compute_212 : decode b_Mo_compute 212 = .ok (.iload 9, 2) := by decide +kernel
theorem d_Mo_compute_214 : decode b_Mo_compute 214 = .ok (.iload 4, 2) := by decide +kernel
theorem d_Mo_compute_216 : decode b_Mo_compute 216 = .ok (.i2d, 1) := by decide +kernel
theorem d_Mo_compute_217 : decode b_Mo_compute 217 = .ok (.dastore, 1) := by decide +kernel
theorem d_Mo_compute_218 : decode b_Mo_compute 218 = .ok (.iload_n 2, 1) := by decide +kernel
theorem d_Mo_compute_219 : decode b_Mo_compute 219 = .ok (.bipush 8, 2) := by decide +kernel
theorem d_Mo_compute_221 : decode b_Mo_compute 221 = .ok (.if_icmp .ne 23, 3) := by decide +kernel
theorem d_Mo_compute_224 : decode b_Mo_compute 224 = .ok (.aload_n 0, 1) := by decide +kernel
theorem d_Mo_compute_225 : decode b_Mo_compute 225 = .ok (.getfield 43, 3) := by decide +kernel
theorem d_Mo_compute_228 : decode b_Mo_compute 228 = .ok (.aload_n 0, 1) := by decide +kernel
theorem d_Mo_compute_229 : decode b_Mo_compute 229 = .ok (.getfield 13, 3) := by decide +kernel
theorem d_Mo_compute_232 : decode b_Mo_compute 232 = .ok (.iload_n 1, 1) := by decide +kernel
theorem d_Mo_compute_233 : decode b_Mo_compute 233 = .ok (.iaload, 1) := by decide +kernel
theorem d_Mo_compute_234 : decode b_Mo_compute 234 = .ok (.iconst 4, 1) := by decide +kernel
theorem d_Mo_compute_235 : decode b_Mo_compute 235 = .ok (.irem, 1) := by decide +kernel
theorem d_Mo_compute_236 : decode b_Mo_compute 236 = .ok (.aload_n 0, 1) := by decide +kernel
theorem d_Mo_compute_237 : decode b_Mo_compute 237 = .ok (.getfield 47, 3) := by decide +kernel
theorem d_Mo_compute_240 : decode b_Mo_compute 240 = .ok (.iload 9, 2) := by decide +kernel
theorem d_Mo_compute_242 : decode b_Mo_compute 242 = .ok (.daload, 1) := by decide +kernel
theorem d_Mo_compute_243 : decode b_Mo_compute 243 = .ok (.dastore, 1) := by decide +kernel
theorem d_Mo_compute_244 : decode b_Mo_compute 244 = .ok (.iload_n 2, 1) := by decide +kernel
theorem d_Mo_compute_245 : decode b_Mo_compute 245 = .ok (.bipush 9, 2) := by decide +kernel
theorem d_Mo_compute_247 : decode b_Mo_compute 247 = .ok (.if_icmp .ne 12, 3) := by decide +kernel
theorem d_Mo_compute_250 : decode b_Mo_compute 250 = .ok (.aload_n 0, 1) := by decide +kernel
theorem d_Mo_compute_251 : decode b_Mo_compute 251 = .ok (.getfield 47, 3) := by decide +kernel
theorem d_Mo_compute_254 : decode b_Mo_compute 254 = .ok (.iload 9, 2) := by decide +kernel
theorem d_Mo_compute_256 : decode b_Mo_compute 256 = .ok (.dload 7, 2) := by decide +kernel
theorem d_Mo_compute_258 : decode b_Mo_compute 258 = .ok (.dastore, 1) := by decide +kernel
theorem d_Mo_compute_259 : decode b_Mo_compute 259 = .ok (.iload_n 2, 1) := by decide +kernel
theorem d_Mo_compute_260 : decode b_Mo_compute 260 = .ok (.bipush 10, 2) := by decide +kernel
theorem d_Mo_compute_262 : decode b_Mo_compute 262 = .ok (.bipush 13, 2) := by decide +kernel
theorem d_Mo_compute_264 : decode b_Mo_compute 264 = .ok (.invokestatic 101, 3) := by decide +kernel
theorem d_Mo_compute_267 : decode b_Mo_compute 267 = .ok (.ifCond .eq 25, 3) := by decide +kernel
theorem d_Mo_compute_270 : decode b_Mo_compute 270 = .ok (.aload_n 0, 1) := by decide +kernel
theorem d_Mo_compute_271 : decode b_Mo_compute 271 = .ok (.getfield 43, 3) := by decide +kernel
theorem d_Mo_compute_274 : decode b_Mo_compute 274 = .ok (.aload_n 0, 1) := by decide +kernel
theorem d_Mo_compute_275 : decode b_Mo_compute 275 = .ok (.getfield 13, 3) := by decide +kernel
theorem d_Mo_compute_278 : decode b_Mo_compute 278 = .ok (.iload_n 1, 1) := by decide +kernel
theorem d_Mo_compute_279 : decode b_Mo_compute 279 = .ok (.iaload, 1) := by decide +kernel
theorem d_Mo_compute_280 : decode b_Mo_compute 280 = .ok (.iconst 4, 1) := by decide +kernel
theorem d_Mo_compute_281 : decode b_Mo_compute 281 = .ok (.irem, 1) := by decide +kernel
theorem d_Mo_compute_282 : decode b_Mo_compute 282 = .ok (.aload_n 0, 1) := by decide +kernel
theorem d_Mo_compute_283 : decode b_Mo_compute 283 = .ok (.iload_n 2, 1) := by decide +kernel
theorem d_Mo_compute_284 : decode b_Mo_compute 284 = .ok (.dload 5, 2) := by decide +kernel
theorem d_Mo_compute_286 : decode b_Mo_compute 286 = .ok (.dload 7, 2) := by decide +kernel
theorem d_Mo_compute_288 : decode b_Mo_compute 288 = .ok (.invokevirtual 120, 3) := by decide +kernel
theorem d_Mo_compute_291 : decode b_Mo_compute 291 = .ok (.dastore, 1) := by decide +kernel
theorem d_Mo_compute_292 : decode b_Mo_compute 292 = .ok (.iload_n 2, 1) := by decide +kernel
theorem d_Mo_compute_293 : decode b_Mo_compute 293 = .ok (.bipush 14, 2) := by decide +kernel
theorem d_Mo_compute_295 : decode b_Mo_compute 295 = .ok (.if_icmp .ne 26, 3) := by decide +kernel
theorem d_Mo_compute_298 : decode b_Mo_compute 298 = .ok (.aload_n 0, 1) := by decide +kernel
theorem d_Mo_compute_299 : decode b_Mo_compute 299 = .ok (.aload_n 0, 1) := by decide +kernel
theorem d_Mo_compute_300 : decode b_Mo_compute 300 = .ok (.getfield 13, 3) := by decide +kernel
theorem d_Mo_compute_303 : decode b_Mo_compute 303 = .ok (.iload_n 1, 1) := by decide +kernel
theorem d_Mo_compute_304 : decode b_Mo_compute 304 = .ok (.iaload, 1) := by decide +kernel
theorem d_Mo_compute_305 : decode b_Mo_compute 305 = .ok (.dload 5, 2) := by decide +kernel
theorem d_Mo_compute_307 : decode b_Mo_compute 307 = .ok (.dload 7, 2) := by decide +kernel
theorem d_Mo_compute_309 : decode b_Mo_compute 309 = .ok (.dcmp .g, 1) := by decide +kernel
theorem d_Mo_compute_310 : decode b_Mo_compute 310 = .ok (.ifCond .ge 7, 3) := by decide +kernel
theorem d_Mo_compute_313 : decode b_Mo_compute 313 = .ok (.iconst 1, 1) := by decide +kernel
theorem d_Mo_compute_314 : decode b_Mo_compute 314 = .ok (.goto 4, 3) := by decide +kernel
theorem d_Mo_compute_317 : decode b_Mo_compute 317 = .ok (.iconst 0, 1) := by decide +kernel
theorem d_Mo_compute_318 : decode b_Mo_compute 318 = .ok (.invokevirtual 116, 3) := by decide +kernel
theorem d_Mo_compute_321 : decode b_Mo_compute 321 = .ok (.iload_n 2, 1) := by decide +kernel
theorem d_Mo_compute_322 : decode b_Mo_compute 322 = .ok (.bipush 15, 2) := by decide +kernel
theorem d_Mo_compute_324 : decode b_Mo_compute 324 = .ok (.if_icmp .ne 18, 3) := by decide +kernel
theorem d_Mo_compute_327 : decode b_Mo_compute 327 = .ok (.aload_n 0, 1) := by decide +kernel
theorem d_Mo_compute_328 : decode b_Mo_compute 328 = .ok (.getfield 43, 3) := by decide +kernel
theorem d_Mo_compute_331 : decode b_Mo_compute 331 = .ok (.aload_n 0, 1) := by decide +kernel
theorem d_Mo_compute_332 : decode b_Mo_compute 332 = .ok (.getfield 13, 3) := by decide +kernel
theorem d_Mo_compute_335 : decode b_Mo_compute 335 = .ok (.iload_n 1, 1) := by decide +kernel
theorem d_Mo_compute_336 : decode b_Mo_compute 336 = .ok (.iaload, 1) := by decide +kernel
theorem d_Mo_compute_337 : decode b_Mo_compute 337 = .ok (.iconst 4, 1) := by decide +kernel
theorem d_Mo_compute_338 : decode b_Mo_compute 338 = .ok (.irem, 1) := by decide +kernel
theorem d_Mo_compute_339 : decode b_Mo_compute 339 = .ok (.iload_n 3, 1) := by decide +kernel
theorem d_Mo_compute_340 : decode b_Mo_compute 340 = .ok (.i2d, 1) := by decide +kernel
theorem d_Mo_compute_341 : decode b_Mo_compute 341 = .ok (.dastore, 1) := by decide +kernel
theorem d_Mo_compute_342 : decode b_Mo_compute 342 = .ok (.iload_n 2, 1) := by decide +kernel
theorem d_Mo_compute_343 : decode b_Mo_compute 343 = .ok (.bipush 16, 2) := by decide +kernel
theorem d_Mo_compute_345 : decode b_Mo_compute 345 = .ok (.if_icmp .ne 16, 3) := by decide +kernel
theorem d_Mo_compute_348 : decode b_Mo_compute 348 = .ok (.aload_n 0, 1) := by decide +kernel
theorem d_Mo_compute_349 : decode b_Mo_compute 349 = .ok (.aload_n 0, 1) := by decide +kernel
theorem d_Mo_compute_350 : decode b_Mo_compute 350 = .ok (.getfield 13, 3) := by decide +kernel
theorem d_Mo_compute_353 : decode b_Mo_compute 353 = .ok (.iload_n 1, 1) := by decide +kernel
theorem d_Mo_compute_354 : decode b_Mo_compute 354 = .ok (.iaload, 1) := by decide +kernel
theorem d_Mo_compute_355 : decode b_Mo_compute 355 = .ok (.dload 5, 2) := by decide +kernel
theorem d_Mo_compute_357 : decode b_Mo_compute 357 = .ok (.d2i, 1) := by decide +kernel
theorem d_Mo_compute_358 : decode b_Mo_compute 358 = .ok (.invokevirtual 116, 3) := by decide +kernel
theorem d_Mo_compute_361 : decode b_Mo_compute 361 = .ok (.return_, 1) := by decide +kernel
theorem d_Mo_trouble_0 : decode b_Mo_trouble 0 = .ok (.aload_n 0, 1) := by decide +kernel
theorem d_Mo_trouble_1 : decode b_Mo_trouble 1 = .ok (.getfield 7, 3) := by decide +kernel
theorem d_Mo_trouble_4 : decode b_Mo_trouble 4 = .ok (.iload_n 1, 1) := by decide +kernel
theorem d_Mo_trouble_5 : decode b_Mo_trouble 5 = .ok (.iaload, 1) := by decide +kernel
theorem d_Mo_trouble_6 : decode b_Mo_trouble 6 = .ok (.istore_n 2, 1) := by decide +kernel
theorem d_Mo_trouble_7 : decode b_Mo_trouble 7 = .ok (.iload_n 2, 1) := by decide +kernel
theorem d_Mo_trouble_8 : decode b_Mo_trouble 8 = .ok (.bipush 6, 2) := by decide +kernel
theorem d_Mo_trouble_10 : decode b_Mo_trouble 10 = .ok (.bipush 9, 2) := by decide +kernel
theorem d_Mo_trouble_12 : decode b_Mo_trouble 12 = .ok (.invokestatic 101, 3) := by decide +kernel
theorem d_Mo_trouble_15 : decode b_Mo_trouble 15 = .ok (.ifCond .eq 32, 3) := by decide +kernel
theorem d_Mo_trouble_18 : decode b_Mo_trouble 18 = .ok (.aload_n 0, 1) := by decide +kernel
theorem d_Mo_trouble_19 : decode b_Mo_trouble 19 = .ok (.getfield 25, 3) := by decide +kernel
theorem d_Mo_trouble_22 : decode b_Mo_trouble 22 = .ok (.aload_n 0, 1) := by decide +kernel
theorem d_Mo_trouble_23 : decode b_Mo_trouble 23 = .ok (.getfield 16, 3) := by decide +kernel
theorem d_Mo_trouble_26 : decode b_Mo_trouble 26 = .ok (.iload_n 1, 1) := by decide +kernel
theorem d_Mo_trouble_27 : decode b_Mo_trouble 27 = .ok (.iaload, 1) := by decide +kernel
theorem d_Mo_trouble_28 : decode b_Mo_trouble 28 = .ok (.iaload, 1) := by decide +kernel
theorem d_Mo_trouble_29 : decode b_Mo_trouble 29 = .ok (.aload_n 0, 1) := by decide +kernel
theorem d_Mo_trouble_30 : decode b_Mo_trouble 30 = .ok (.getfield 22, 3) := by decide +kernel
theorem d_Mo_trouble_33 : decode b_Mo_trouble 33 = .ok (.iload_n 1, 1) := by decide +kernel
theorem d_Mo_trouble_34 : decode b_Mo_trouble 34 = .ok (.iaload, 1) := by decide +kernel
theorem d_Mo_trouble_35 : decode b_Mo_trouble 35 = .ok (.iadd, 1) := by decide +kernel
theorem d_Mo_trouble_36 : decode b_Mo_trouble 36 = .ok (.iconst 0, 1) := by decide +kernel
theorem d_Mo_trouble_37 : decode b_Mo_trouble 37 = .ok (.bipush 47, 2) := by decide +kernel
theorem d_Mo_trouble_39 : decode b_Mo_trouble 39 = .ok (.invokestatic 101, 3) := by decide +kernel
theorem d_Mo_trouble_42 : decode b_Mo_trouble 42 = .ok (.ifCond .ne 5, 3) := by decide +kernel
theorem d_Mo_trouble_45 : decode b_Mo_trouble 45 = .ok (.iconst 3, 1) := by decide +kernel
theorem d_Mo_trouble_46 : decode b_Mo_trouble 46 = .ok (.ireturn, 1) := by decide +kernel
theorem d_Mo_trouble_47 : decode b_Mo_trouble 47 = .ok (.iload_n 2, 1) := by decide +kernel
theorem d_Mo_trouble_48 : decode b_Mo_trouble 48 = .ok (.bipush 10, 2) := by decide +kernel
theorem d_Mo_trouble_50 : decode b_Mo_trouble 50 = .ok (.bipush 13, 2) := by decide +kernel
theorem d_Mo_trouble_52 : decode b_Mo_trouble 52 = .ok (.invokestatic 101, 3) := by decide +kernel
theorem d_Mo_trouble_55 : decode b_Mo_trouble 55 = .ok (.ifCond .ne 5, 3) := by decide +kernel
theorem d_Mo_trouble_58 : decode b_Mo_trouble 58 = .ok (.iconst 0, 1) := by decide +kernel
theorem d_Mo_trouble_59 : decode b_Mo_trouble 59 = .ok (.ireturn, 1) := by decide +kernel
theorem d_Mo_trouble_60 : decode b_Mo_trouble 60 = .ok (.aload_n 0, 1) := by decide +kernel
theorem d_Mo_trouble_61 : decode b_Mo_trouble 61 = .ok (.getfield 43, 3) := by decide +kernel
theorem d_Mo_trouble_64 : decode b_Mo_trouble 64 = .ok (.aload_n 0, 1) := by decide +kernel
theorem d_Mo_trouble_65 : decode b_Mo_trouble 65 = .ok (.getfield 16, 3) := by decide +kernel
theorem d_Mo_trouble_68 : decode b_Mo_trouble 68 = .ok (.iload_n 1, 1) := by decide +kernel
theorem d_Mo_trouble_69 : decode b_Mo_trouble 69 = .ok (.iaload, 1) := by decide +kernel
theorem d_Mo_trouble_70 : decode b_Mo_trouble 70 = .ok (.iconst 4, 1) := by decide +kernel
theorem d_Mo_trouble_71 : decode b_Mo_trouble 71 = .ok (.irem, 1) := by decide +kernel
theorem d_Mo_trouble_72 : decode b_Mo_trouble 72 = .ok (.daload, 1) := by decide +kernel
theorem d_Mo_trouble_73 : decode b_Mo_trouble 73 = .ok (.dstore_n 3, 1) := by decide +kernel
theorem d_Mo_trouble_74 : decode b_Mo_trouble 74 = .ok (.aload_n 0, 1) := by decide +kernel
theorem d_Mo_trouble_75 : decode b_Mo_trouble 75 = .ok (.getfield 43, 3) := by decide +kernel
theorem d_Mo_trouble_78 : decode b_Mo_trouble 78 = .ok (.aload_n 0, 1) := by decide +kernel
theorem d_Mo_trouble_79 : decode b_Mo_trouble 79 = .ok (.getfield 19, 3) := by decide +kernel
theorem d_Mo_trouble_82 : decode b_Mo_trouble 82 = .ok (.iload_n 1, 1) := by decide +kernel
theorem d_Mo_trouble_83 : decode b_Mo_trouble 83 = .ok (.iaload, 1) := by decide +kernel
theorem d_Mo_trouble_84 : decode b_Mo_trouble 84 = .ok (.iconst 4, 1) := by decide +kernel
theorem d_Mo_trouble_85 : decode b_Mo_trouble 85 = .ok (.irem, 1) := by decide +kernel
theorem d_Mo_trouble_86 : decode b_Mo_trouble 86 = .ok (.daload, 1) := by decide +kernel
theorem d_Mo_trouble_87 : decode b_Mo_trouble 87 = .ok (.dstore 5, 2) := by decide +kernel
theorem d_Mo_trouble_89 : decode b_Mo_trouble 89 = .ok (.iload_n 2, 1) := by decide +kernel
theorem d_Mo_trouble_90 : decode b_Mo_trouble 90 = .ok (.bipush 13, 2) := by decide +kernel
theorem d_Mo_trouble_92 : decode b_Mo_trouble 92 = .ok (.if_icmp .ne 12, 3) := by decide +kernel
theorem d_Mo_trouble_95 : decode b_Mo_trouble 95 = .ok (.dload 5, 2) := by decide +kernel
theorem d_Mo_trouble_97 : decode b_Mo_trouble 97 = .ok (.dconst 0, 1) := by decide +kernel
theorem d_Mo_trouble_98 : decode b_Mo_trouble 98 = .ok (.dcmp .l, 1) := by decide +kernel
theorem d_Mo_trouble_99 : decode b_Mo_trouble 99 = .ok (.ifCond .ne 5, 3) := by decide +kernel
theorem d_Mo_trouble_102 : decode b_Mo_trouble 102 = .ok (.iconst 4, 1) := by decide +kernel
theorem d_Mo_trouble_103 : decode b_Mo_trouble 103 = .ok (.ireturn, 1) := by decide +kernel
theorem d_Mo_trouble_104 : decode b_Mo_trouble 104 = .ok (.aload_n 0, 1) := by decide +kernel
theorem d_Mo_trouble_105 : decode b_Mo_trouble 105 = .ok (.iload_n 2, 1) := by decide +kernel
theorem d_Mo_trouble_106 : decode b_Mo_trouble 106 = .ok (.dload_n 3, 1) := by decide +kernel
theorem d_Mo_trouble_107 : decode b_Mo_trouble 107 = .ok (.dload 5, 2) := by decide +kernel
theorem d_Mo_trouble_109 : decode b_Mo_trouble 109 = .ok (.invokevirtual 120, 3) := by decide +kernel
theorem d_Mo_trouble_112 : decode b_Mo_trouble 112 = .ok (.dstore 7, 2) := by decide +kernel
theorem d_Mo_trouble_114 : decode b_Mo_trouble 114 = .ok (.dload 7, 2) := by decide +kernel
theorem d_Mo_trouble_116 : decode b_Mo_trouble 116 = .ok (.ldc2_w 124, 3) := by decide +kernel
theorem d_Mo_trouble_119 : decode b_Mo_trouble 119 = .ok (.dcmp .l, 1) := by decide +kernel
theorem d_Mo_trouble_120 : decode b_Mo_trouble 120 = .ok (.ifCond .gt 12, 3) := by decide +kernel
theorem d_Mo_trouble_123 : decode b_Mo_trouble 123 = .ok (.dload 7, 2) := by decide +kernel
theorem d_Mo_trouble_125 : decode b_Mo_trouble 125 = .ok (.ldc2_w 126, 3) := by decide +kernel
theorem d_Mo_trouble_128 : decode b_Mo_trouble 128 = .ok (.dcmp .g, 1) := by decide +kernel
theorem d_Mo_trouble_129 : decode b_Mo_trouble 129 = .ok (.ifCond .ge 7, 3) := by decide +kernel
theorem d_Mo_trouble_132 : decode b_Mo_trouble 132 = .ok (.iconst 4, 1) := by decide +kernel
theorem d_Mo_trouble_133 : decode b_Mo_trouble 133 = .ok (.goto 4, 3) := by decide +kernel
theorem d_Mo_trouble_136 : decode b_Mo_trouble 136 = .ok (.iconst 0, 1) := by decide +kernel
theorem d_Mo_trouble_137 : decode b_Mo_trouble 137 = .ok (.ireturn, 1) := by decide +kernel
theorem d_Mo_modulo_0 : decode b_Mo_modulo 0 = .ok (.iload_n 0, 1) := by decide +kernel
theorem d_Mo_modulo_1 : decode b_Mo_modulo 1 = .ok (.bipush 24, 2) := by decide +kernel
theorem d_Mo_modulo_3 : decode b_Mo_modulo 3 = .ok (.irem, 1) := by decide +kernel
theorem d_Mo_modulo_4 : decode b_Mo_modulo 4 = .ok (.bipush 24, 2) := by decide +kernel
theorem d_Mo_modulo_6 : decode b_Mo_modulo 6 = .ok (.iadd, 1) := by decide +kernel
theorem d_Mo_modulo_7 : decode b_Mo_modulo 7 = .ok (.bipush 24, 2) := by decide +kernel
theorem d_Mo_modulo_9 : decode b_Mo_modulo 9 = .ok (.irem, 1) := by decide +kernel
theorem d_Mo_modulo_10 : decode b_Mo_modulo 10 = .ok (.ireturn, 1) := by decide +kernel
theorem d_Mo_next_0 : decode b_Mo_next 0 = .ok (.aload_n 0, 1) := by decide +kernel
theorem d_Mo_next_1 : decode b_Mo_next 1 = .ok (.getfield 7, 3) := by decide +kernel
theorem d_Mo_next_4 : decode b_Mo_next 4 = .ok (.iload_n 1, 1) := by decide +kernel
theorem d_Mo_next_5 : decode b_Mo_next 5 = .ok (.iaload, 1) := by decide +kernel
theorem d_Mo_next_6 : decode b_Mo_next 6 = .ok (.istore_n 2, 1) := by decide +kernel
theorem d_Mo_next_7 : decode b_Mo_next 7 = .ok (.iload_n 2, 1) := by decide +kernel
theorem d_Mo_next_8 : decode b_Mo_next 8 = .ok (.bipush 19, 2) := by decide +kernel
theorem d_Mo_next_10 : decode b_Mo_next 10 = .ok (.if_icmp .ne 13, 3) := by decide +kernel
theorem d_Mo_next_13 : decode b_Mo_next 13 = .ok (.aload_n 0, 1) := by decide +kernel
theorem d_Mo_next_14 : decode b_Mo_next 14 = .ok (.getfield 22, 3) := by decide +kernel
theorem d_Mo_next_17 : decode b_Mo_next 17 = .ok (.iload_n 1, 1) := by decide +kernel
theorem d_Mo_next_18 : decode b_Mo_next 18 = .ok (.iaload, 1) := by decide +kernel
theorem d_Mo_next_19 : decode b_Mo_next 19 = .ok (.invokestatic 128, 3) := by decide +kernel
theorem d_Mo_next_22 : decode b_Mo_next 22 = .ok (.ireturn, 1) := by decide +kernel
theorem d_Mo_next_23 : decode b_Mo_next 23 = .ok (.iload_n 2, 1) := by decide +kernel
theorem d_Mo_next_24 : decode b_Mo_next 24 = .ok (.bipush 17, 2) := by decide +kernel
theorem d_Mo_next_26 : decode b_Mo_next 26 = .ok (.if_icmp .ge 10, 3) := by decide +kernel
theorem d_Mo_next_29 : decode b_Mo_next 29 = .ok (.iload_n 1, 1) := by decide +kernel
theorem d_Mo_next_30 : decode b_Mo_next 30 = .ok (.iconst 1, 1) := by decide +kernel
theorem d_Mo_next_31 : decode b_Mo_next 31 = .ok (.iadd, 1) := by decide +kernel
theorem d_Mo_next_32 : decode b_Mo_next 32 = .ok (.bipush 24, 2) := by decide +kernel
theorem d_Mo_next_34 : decode b_Mo_next 34 = .ok (.irem, 1) := by decide +kernel
theorem d_Mo_next_35 : decode b_Mo_next 35 = .ok (.ireturn, 1) := by decide +kernel
theorem d_Mo_next_36 : decode b_Mo_next 36 = .ok (.aload_n 0, 1) := by decide +kernel
theorem d_Mo_next_37 : decode b_Mo_next 37 = .ok (.getfield 25, 3) := by decide +kernel
theorem d_Mo_next_40 : decode b_Mo_next 40 = .ok (.aload_n 0, 1) := by decide +kernel
theorem d_Mo_next_41 : decode b_Mo_next 41 = .ok (.getfield 16, 3) := by decide +kernel
theorem d_Mo_next_44 : decode b_Mo_next 44 = .ok (.iload_n 1, 1) := by decide +kernel
theorem d_Mo_next_45 : decode b_Mo_next 45 = .ok (.iaload, 1) := by decide +kernel
theorem d_Mo_next_46 : decode b_Mo_next 46 = .ok (.iaload, 1) := by decide +kernel
theorem d_Mo_next_47 : decode b_Mo_next 47 = .ok (.aload_n 0, 1) := by decide +kernel
theorem d_Mo_next_48 : decode b_Mo_next 48 = .ok (.getfield 25, 3) := by decide +kernel
theorem d_Mo_next_51 : decode b_Mo_next 51 = .ok (.aload_n 0, 1) := by decide +kernel
theorem d_Mo_next_52 : decode b_Mo_next 52 = .ok (.getfield 19, 3) := by decide +kernel
theorem d_Mo_next_55 : decode b_Mo_next 55 = .ok (.iload_n 1, 1) := by decide +kernel
theorem d_Mo_next_56 : decode b_Mo_next 56 = .ok (.iaload, 1) := by decide +kernel
theorem d_Mo_next_57 : decode b_Mo_next 57 = .ok (.iaload, 1) := by decide +kernel
theorem d_Mo_next_58 : decode b_Mo_next 58 = .ok (.if_icmp .ne 7, 3) := by decide +kernel
theorem d_Mo_next_61 : decode b_Mo_next 61 = .ok (.iconst 1, 1) := by decide +kernel
theorem d_Mo_next_62 : decode b_Mo_next 62 = .ok (.goto 4, 3) := by decide +kernel
theorem d_Mo_next_65 : decode b_Mo_next 65 = .ok (.iconst 0, 1) := by decide +kernel
theorem d_Mo_next_66 : decode b_Mo_next 66 = .ok (.iload_n 2, 1) := by decide +kernel
theorem d_Mo_next_67 : decode b_Mo_next 67 = .ok (.bipush 17, 2) := by decide +kernel
theorem d_Mo_next_69 : decode b_Mo_next 69 = .ok (.if_icmp .ne 7, 3) := by decide +kernel
theorem d_Mo_next_72 : decode b_Mo_next 72 = .ok (.iconst 1, 1) := by decide +kernel
theorem d_Mo_next_73 : decode b_Mo_next 73 = .ok (.goto 4, 3) := by decide +kernel
theorem d_Mo_next_76 : decode b_Mo_next 76 = .ok (.iconst 0, 1) := by decide +kernel
theorem d_Mo_next_77 : decode b_Mo_next 77 = .ok (.if_icmp .ne 7, 3) := by decide +kernel
theorem d_Mo_next_80 : decode b_Mo_next 80 = .ok (.iconst 1, 1) := by decide +kernel
theorem d_Mo_next_81 : decode b_Mo_next 81 = .ok (.goto 4, 3) := by decide +kernel
theorem d_Mo_next_84 : decode b_Mo_next 84 = .ok (.iconst 0, 1) := by decide +kernel
theorem d_Mo_next_85 : decode b_Mo_next 85 = .ok (.istore_n 3, 1) := by decide +kernel
theorem d_Mo_next_86 : decode b_Mo_next 86 = .ok (.iload_n 1, 1) := by decide +kernel
theorem d_Mo_next_87 : decode b_Mo_next 87 = .ok (.bipush 8, 2) := by decide +kernel
theorem d_Mo_next_89 : decode b_Mo_next 89 = .ok (.irem, 1) := by decide +kernel
theorem d_Mo_next_90 : decode b_Mo_next 90 = .ok (.istore 4, 2) := by decide +kernel
theorem d_Mo_next_92 : decode b_Mo_next 92 = .ok (.aload_n 0, 1) := by decide +kernel
theorem d_Mo_next_93 : decode b_Mo_next 93 = .ok (.aload_n 0, 1) := by decide +kernel
theorem d_Mo_next_94 : decode b_Mo_next 94 = .ok (.getfield 40, 3) := by decide +kernel
theorem d_Mo_next_97 : decode b_Mo_next 97 = .ok (.iload 4, 2) := by decide +kernel
theorem d_Mo_next_99 : decode b_Mo_next 99 = .ok (.iaload, 1) := by decide +kernel
theorem d_Mo_next_100 : decode b_Mo_next 100 = .ok (.iconst 1, 1) := by decide +kernel
theorem d_Mo_next_101 : decode b_Mo_next 101 = .ok (.if_icmp .le 7, 3) := by decide +kernel
theorem d_Mo_next_104 : decode b_Mo_next 104 = .ok (.iconst 1, 1) := by decide +kernel
theorem d_Mo_next_105 : decode b_Mo_next 105 = .ok (.goto 4, 3) := by decide +kernel
theorem d_Mo_next_108 : decode b_Mo_next 108 = .ok (.iconst 0, 1) := by decide +kernel
theorem d_Mo_next_109 : decode b_Mo_next 109 = .ok (.iload_n 3, 1) := by decide +kernel
theorem d_Mo_next_110 : decode b_Mo_next 110 = .ok (.if_icmp .eq 7, 3) := by decide +kernel
theorem d_Mo_next_113 : decode b_Mo_next 113 = .ok (.iconst 1, 1) := by decide +kernel
theorem d_Mo_next_114 : decode b_Mo_next 114 = .ok (.goto 4, 3) := by decide +kernel
theorem d_Mo_next_117 : decode b_Mo_next 117 = .ok (.iconst 0, 1) := by decide +kernel
theorem d_Mo_next_118 : decode b_Mo_next 118 = .ok (.putfield 98, 3) := by decide +kernel
theorem d_Mo_next_121 : decode b_Mo_next 121 = .ok (.aload_n 0, 1) := by decide +kernel
theorem d_Mo_next_122 : decode b_Mo_next 122 = .ok (.getfield 98, 3) := by decide +kernel
theorem d_Mo_next_125 : decode b_Mo_next 125 = .ok (.ifCond .eq 13, 3) := by decide +kernel
theorem d_Mo_next_128 : decode b_Mo_next 128 = .ok (.aload_n 0, 1) := by decide +kernel
theorem d_Mo_next_129 : decode b_Mo_next 129 = .ok (.dup, 1) := by decide +kernel
theorem d_Mo_next_130 : decode b_Mo_next 130 = .ok (.getfield 86, 3) := by decide +kernel
theorem d_Mo_next_133 : decode b_Mo_next 133 = .ok (.iconst 1, 1) := by decide +kernel
theorem d_Mo_next_134 : decode b_Mo_next 134 = .ok (.iadd, 1) := by decide +kernel
theorem d_Mo_next_135 : decode b_Mo_next 135 = .ok (.putfield 86, 3) := by decide +kernel
theorem d_Mo_next_138 : decode b_Mo_next 138 = .ok (.iload_n 3, 1) := by decide +kernel
theorem d_Mo_next_139 : decode b_Mo_next 139 = .ok (.ifCond .eq 25, 3) := by decide +kernel
theorem d_Mo_next_142 : decode b_Mo_next 142 = .ok (.aload_n 0, 1) := by decide +kernel
theorem d_Mo_next_143 : decode b_Mo_next 143 = .ok (.getfield 40, 3) := by decide +kernel
theorem d_Mo_next_146 : decode b_Mo_next 146 = .ok (.iload 4, 2) := by decide +kernel
theorem d_Mo_next_148 : decode b_Mo_next 148 = .ok (.iaload, 1) := by decide +kernel
theorem d_Mo_next_149 : decode b_Mo_next 149 = .ok (.iconst 3, 1) := by decide +kernel
theorem d_Mo_next_150 : decode b_Mo_next 150 = .ok (.if_icmp .ge 14, 3) := by decide +kernel
theorem d_Mo_next_153 : decode b_Mo_next 153 = .ok (.aload_n 0, 1) := by decide +kernel
theorem d_Mo_next_154 : decode b_Mo_next 154 = .ok (.getfield 40, 3) := by decide +kernel
theorem d_Mo_next_157 : decode b_Mo_next 157 = .ok (.iload 4, 2) := by decide +kernel
theorem d_Mo_next_159 : decode b_Mo_next 159 = .ok (.dup2, 1) := by decide +kernel
theorem d_Mo_next_160 : decode b_Mo_next 160 = .ok (.iaload, 1) := by decide +kernel
theorem d_Mo_next_161 : decode b_Mo_next 161 = .ok (.iconst 1, 1) := by decide +kernel
theorem d_Mo_next_162 : decode b_Mo_next 162 = .ok (.iadd, 1) := by decide +kernel
theorem d_Mo_next_163 : decode b_Mo_next 163 = .ok (.iastore, 1) := by decide +kernel
theorem d_Mo_next_164 : decode b_Mo_next 164 = .ok (.iload_n 3, 1) := by decide +kernel
theorem d_Mo_next_165 : decode b_Mo_next 165 = .ok (.ifCond .ne 24, 3) := by decide +kernel
theorem d_Mo_next_168 : decode b_Mo_next 168 = .ok (.aload_n 0, 1) := by decide +kernel
theorem d_Mo_next_169 : decode b_Mo_next 169 = .ok (.getfield 40, 3) := by decide +kernel
theorem d_Mo_next_172 : decode b_Mo_next 172 = .ok (.iload 4, 2) := by decide +kernel
theorem d_Mo_next_174 : decode b_Mo_next 174 = .ok (.iaload, 1) := by decide +kernel
theorem d_Mo_next_175 : decode b_Mo_next 175 = .ok (.ifCond .le 14, 3) := by decide +kernel
theorem d_Mo_next_178 : decode b_Mo_next 178 = .ok (.aload_n 0, 1) := by decide +kernel
theorem d_Mo_next_179 : decode b_Mo_next 179 = .ok (.getfield 40, 3) := by decide +kernel
theorem d_Mo_next_182 : decode b_Mo_next 182 = .ok (.iload 4, 2) := by decide +kernel
theorem d_Mo_next_184 : decode b_Mo_next 184 = .ok (.dup2, 1) := by decide +kernel
theorem d_Mo_next_185 : decode b_Mo_next 185 = .ok (.iaload, 1) := by decide +kernel
theorem d_Mo_next_186 : decode b_Mo_next 186 = .ok (.iconst 1, 1) := by decide +kernel
theorem d_Mo_next_187 : decode b_Mo_next 187 = .ok (.isub, 1) := by decide +kernel
theorem d_Mo_next_188 : decode b_Mo_next 188 = .ok (.iastore, 1) := by decide +kernel
theorem d_Mo_next_189 : decode b_Mo_next 189 = .ok (.iload_n 3, 1) := by decide +kernel
theorem d_Mo_next_190 : decode b_Mo_next 190 = .ok (.ifCond .eq 15, 3) := by decide +kernel
theorem d_Mo_next_193 : decode b_Mo_next 193 = .ok (.aload_n 0, 1) := by decide +kernel
theorem d_Mo_next_194 : decode b_Mo_next 194 = .ok (.getfield 22, 3) := by decide +kernel
theorem d_Mo_next_197 : decode b_Mo_next 197 = .ok (.iload_n 1, 1) := by decide +kernel
theorem d_Mo_next_198 : decode b_Mo_next 198 = .ok (.iaload, 1) := by decide +kernel
theorem d_Mo_next_199 : decode b_Mo_next 199 = .ok (.invokestatic 128, 3) := by decide +kernel
theorem d_Mo_next_202 : decode b_Mo_next 202 = .ok (.goto 9, 3) := by decide +kernel
theorem d_Mo_next_205 : decode b_Mo_next 205 = .ok (.iload_n 1, 1) := by decide +kernel
theorem d_Mo_next_206 : decode b_Mo_next 206 = .ok (.iconst 1, 1) := by decide +kernel
theorem d_Mo_next_207 : decode b_Mo_next 207 = .ok (.iadd, 1) := by decide +kernel
theorem d_Mo_next_208 : decode b_Mo_next 208 = .ok (.bipush 24, 2) := by decide +kernel
theorem d_Mo_next_210 : decode b_Mo_next 210 = .ok (.irem, 1) := by decide +kernel
theorem d_Mo_next_211 : decode b_Mo_next 211 = .ok (.ireturn, 1) := by decide +kernel
theorem d_Mo_doOne_0 : decode b_Mo_doOne 0 = .ok (.aload_n 0, 1) := by decide +kernel
theorem d_Mo_doOne_1 : decode b_Mo_doOne 1 = .ok (.getfield 113, 3) := by decide +kernel
theorem d_Mo_doOne_4 : decode b_Mo_doOne 4 = .ok (.istore_n 1, 1) := by decide +kernel
theorem d_Mo_doOne_5 : decode b_Mo_doOne 5 = .ok (.aload_n 0, 1) := by decide +kernel
theorem d_Mo_doOne_6 : decode b_Mo_doOne 6 = .ok (.getfield 7, 3) := by decide +kernel
theorem d_Mo_doOne_9 : decode b_Mo_doOne 9 = .ok (.iload_n 1, 1) := by decide +kernel
theorem d_Mo_doOne_10 : decode b_Mo_doOne 10 = .ok (.iaload, 1) := by decide +kernel
theorem d_Mo_doOne_11 : decode b_Mo_doOne 11 = .ok (.istore_n 2, 1) := by decide +kernel
theorem d_Mo_doOne_12 : decode b_Mo_doOne 12 = .ok (.aload_n 0, 1) := by decide +kernel
theorem d_Mo_doOne_13 : decode b_Mo_doOne 13 = .ok (.getfield 63, 3) := by decide +kernel
theorem d_Mo_doOne_16 : decode b_Mo_doOne 16 = .ok (.iconst 1, 1) := by decide +kernel
theorem d_Mo_doOne_17 : decode b_Mo_doOne 17 = .ok (.iadd, 1) := by decide +kernel
theorem d_Mo_doOne_18 : decode b_Mo_doOne 18 = .ok (.istore_n 3, 1) := by decide +kernel
theorem d_Mo_doOne_19 : decode b_Mo_doOne 19 = .ok (.aload_n 0, 1) := by decide +kernel
theorem d_Mo_doOne_20 : decode b_Mo_doOne 20 = .ok (.iload_n 1, 1) := by decide +kernel
theorem d_Mo_doOne_21 : decode b_Mo_doOne 21 = .ok (.invokevirtual 132, 3) := by decide +kernel
theorem d_Mo_doOne_24 : decode b_Mo_doOne 24 = .ok (.ifCond .eq 6, 3) := by decide +kernel
theorem d_Mo_doOne_27 : decode b_Mo_doOne 27 = .ok (.iinc 3 4, 3) := by decide +kernel
theorem d_Mo_doOne_30 : decode b_Mo_doOne 30 = .ok (.aload_n 0, 1) := by decide +kernel
theorem d_Mo_doOne_31 : decode b_Mo_doOne 31 = .ok (.getfield 98, 3) := by decide +kernel
theorem d_Mo_doOne_34 : decode b_Mo_doOne 34 = .ok (.ifCond .eq 6, 3) := by decide +kernel
theorem d_Mo_doOne_37 : decode b_Mo_doOne 37 = .ok (.iinc 3 2, 3) := by decide +kernel
theorem d_Mo_doOne_40 : decode b_Mo_doOne 40 = .ok (.iload_n 2, 1) := by decide +kernel
theorem d_Mo_doOne_41 : decode b_Mo_doOne 41 = .ok (.bipush 6, 2) := by decide +kernel
theorem d_Mo_doOne_43 : decode b_Mo_doOne 43 = .ok (.bipush 9, 2) := by decide +kernel
theorem d_Mo_doOne_45 : decode b_Mo_doOne 45 = .ok (.invokestatic 101, 3) := by decide +kernel
theorem d_Mo_doOne_48 : decode b_Mo_doOne 48 = .ok (.istore 4, 2) := by decide +kernel
theorem d_Mo_doOne_50 : decode b_Mo_doOne 50 = .ok (.aload_n 0, 1) := by decide +kernel
theorem d_Mo_doOne_51 : decode b_Mo_doOne 51 = .ok (.iload_n 1, 1) := by decide +kernel
theorem d_Mo_doOne_52 : decode b_Mo_doOne 52 = .ok (.invokevirtual 136, 3) := by decide +kernel
theorem d_Mo_doOne_55 : decode b_Mo_doOne 55 = .ok (.istore 5, 2) := by decide +kernel
theorem d_Mo_doOne_57 : decode b_Mo_doOne 57 = .ok (.iload 4, 2) := by decide +kernel
theorem d_Mo_doOne_59 : decode b_Mo_doOne 59 = .ok (.ifCond .eq 37, 3) := by decide +kernel
theorem d_Mo_doOne_62 : decode b_Mo_doOne 62 = .ok (.iload 5, 2) := by decide +kernel
theorem d_Mo_doOne_64 : decode b_Mo_doOne 64 = .ok (.ifCond .ne 32, 3) := by decide +kernel
theorem d_Mo_doOne_67 : decode b_Mo_doOne 67 = .ok (.aload_n 0, 1) := by decide +kernel
theorem d_Mo_doOne_68 : decode b_Mo_doOne 68 = .ok (.aload_n 0, 1) := by decide +kernel
theorem d_Mo_doOne_69 : decode b_Mo_doOne 69 = .ok (.getfield 25, 3) := by decide +kernel
theorem d_Mo_doOne_72 : decode b_Mo_doOne 72 = .ok (.aload_n 0, 1) := by decide +kernel
theorem d_Mo_doOne_73 : decode b_Mo_doOne 73 = .ok (.getfield 16, 3) := by decide +kernel
theorem d_Mo_doOne_76 : decode b_Mo_doOne 76 = .ok (.iload_n 1, 1) := by decide +kernel
theorem d_Mo_doOne_77 : decode b_Mo_doOne 77 = .ok (.iaload, 1) := by decide +kernel
theorem d_Mo_doOne_78 : decode b_Mo_doOne 78 = .ok (.iaload, 1) := by decide +kernel
theorem d_Mo_doOne_79 : decode b_Mo_doOne 79 = .ok (.aload_n 0, 1) := by decide +kernel
theorem d_Mo_doOne_80 : decode b_Mo_doOne 80 = .ok (.getfield 22, 3) := by decide +kernel
theorem d_Mo_doOne_83 : decode b_Mo_doOne 83 = .ok (.iload_n 1, 1) := by decide +kernel
theorem d_Mo_doOne_84 : decode b_Mo_doOne 84 = .ok (.iaload, 1) := by decide +kernel
theorem d_Mo_doOne_85 : decode b_Mo_doOne 85 = .ok (.iadd, 1) := by decide +kernel
theorem d_Mo_doOne_86 : decode b_Mo_doOne 86 = .ok (.invokevirtual 139, 3) := by decide +kernel
theorem d_Mo_doOne_89 : decode b_Mo_doOne 89 = .ok (.ifCond .eq 7, 3) := by decide +kernel
theorem d_Mo_doOne_92 : decode b_Mo_doOne 92 = .ok (.iconst 1, 1) := by decide +kernel
theorem d_Mo_doOne_93 : decode b_Mo_doOne 93 = .ok (.goto 4, 3) := by decide +kernel
theorem d_Mo_doOne_96 : decode b_Mo_doOne 96 = .ok (.iconst 0, 1) := by decide +kernel
theorem d_Mo_doOne_97 : decode b_Mo_doOne 97 = .ok (.istore 6, 2) := by decide +kernel
theorem d_Mo_doOne_99 : decode b_Mo_doOne 99 = .ok (.iload 5, 2) := by decide +kernel
theorem d_Mo_doOne_101 : decode b_Mo_doOne 101 = .ok (.ifCond .le 15, 3) := by decide +kernel
theorem d_Mo_doOne_104 : decode b_Mo_doOne 104 = .ok (.aload_n 0, 1) := by decide +kernel
theorem d_Mo_doOne_105 : decode b_Mo_doOne 105 = .ok (.iload 5, 2) := by decide +kernel
theorem d_Mo_doOne_107 : decode b_Mo_doOne 107 = .ok (.putfield 74, 3) := by decide +kernel
theorem d_Mo_doOne_110 : decode b_Mo_doOne 110 = .ok (.aload_n 0, 1) := by decide +kernel
theorem d_Mo_doOne_111 : decode b_Mo_doOne 111 = .ok (.iconst 1, 1) := by decide +kernel
theorem d_Mo_doOne_112 : decode b_Mo_doOne 112 = .ok (.putfield 67, 3) := by decide +kernel
theorem d_Mo_doOne_115 : decode b_Mo_doOne 115 = .ok (.return_, 1) := by decide +kernel
theorem d_Mo_doOne_116 : decode b_Mo_doOne 116 = .ok (.iload 6, 2) := by decide +kernel
theorem d_Mo_doOne_118 : decode b_Mo_doOne 118 = .ok (.ifCond .eq 7, 3) := by decide +kernel
theorem d_Mo_doOne_121 : decode b_Mo_doOne 121 = .ok (.iconst 5, 1) := by decide +kernel
theorem d_Mo_doOne_122 : decode b_Mo_doOne 122 = .ok (.goto 4, 3) := by decide +kernel
theorem d_Mo_doOne_125 : decode b_Mo_doOne 125 = .ok (.iconst 0, 1) := by decide +kernel
theorem d_Mo_doOne_126 : decode b_Mo_doOne 126 = .ok (.istore 7, 2) := by decide +kernel
theorem d_Mo_doOne_128 : decode b_Mo_doOne 128 = .ok (.aload_n 0, 1) := by decide +kernel
theorem d_Mo_doOne_129 : decode b_Mo_doOne 129 = .ok (.iload_n 1, 1) := by decide +kernel
theorem d_Mo_doOne_130 : decode b_Mo_doOne 130 = .ok (.invokevirtual 142, 3) := by decide +kernel
theorem d_Mo_doOne_133 : decode b_Mo_doOne 133 = .ok (.istore 8, 2) := by decide +kernel
theorem d_Mo_doOne_135 : decode b_Mo_doOne 135 = .ok (.aload_n 0, 1) := by decide +kernel
theorem d_Mo_doOne_136 : decode b_Mo_doOne 136 = .ok (.iload_n 1, 1) := by decide +kernel
theorem d_Mo_doOne_137 : decode b_Mo_doOne 137 = .ok (.invokevirtual 145, 3) := by decide +kernel
theorem d_Mo_doOne_140 : decode b_Mo_doOne 140 = .ok (.iload_n 2, 1) := by decide +kernel
theorem d_Mo_doOne_141 : decode b_Mo_doOne 141 = .ok (.bipush 6, 2) := by decide +kernel
theorem d_Mo_doOne_143 : decode b_Mo_doOne 143 = .ok (.if_icmp .eq 9, 3) := by decide +kernel
theorem d_Mo_doOne_146 : decode b_Mo_doOne 146 = .ok (.iload_n 2, 1) := by decide +kernel
theorem d_Mo_doOne_147 : decode b_Mo_doOne 147 = .ok (.bipush 8, 2) := by decide +kernel
theorem d_Mo_doOne_149 : decode b_Mo_doOne 149 = .ok (.if_icmp .ne 8, 3) := by decide +kernel
theorem d_Mo_doOne_152 : decode b_Mo_doOne 152 = .ok (.iload 7, 2) := by decide +kernel
theorem d_Mo_doOne_154 : decode b_Mo_doOne 154 = .ok (.goto 4, 3) := by decide +kernel
theorem d_Mo_doOne_157 : decode b_Mo_doOne 157 = .ok (.iconst 0, 1) := by decide +kernel
theorem d_Mo_doOne_158 : decode b_Mo_doOne 158 = .ok (.iadd, 1) := by decide +kernel
theorem d_Mo_doOne_159 : decode b_Mo_doOne 159 = .ok (.istore 9, 2) := by decide +kernel
theorem d_Mo_doOne_161 : decode b_Mo_doOne 161 = .ok (.iload_n 3, 1) := by decide +kernel
theorem d_Mo_doOne_162 : decode b_Mo_doOne 162 = .ok (.aload_n 0, 1) := by decide +kernel
theorem d_Mo_doOne_163 : decode b_Mo_doOne 163 = .ok (.getfield 28, 3) := by decide +kernel
theorem d_Mo_doOne_166 : decode b_Mo_doOne 166 = .ok (.aload_n 0, 1) := by decide +kernel
theorem d_Mo_doOne_167 : decode b_Mo_doOne 167 = .ok (.iload_n 1, 1) := by decide +kernel
theorem d_Mo_doOne_168 : decode b_Mo_doOne 168 = .ok (.invokevirtual 148, 3) := by decide +kernel
theorem d_Mo_doOne_171 : decode b_Mo_doOne 171 = .ok (.iaload, 1) := by decide +kernel
theorem d_Mo_doOne_172 : decode b_Mo_doOne 172 = .ok (.invokestatic 151, 3) := by decide +kernel
theorem d_Mo_doOne_175 : decode b_Mo_doOne 175 = .ok (.istore_n 3, 1) := by decide +kernel
theorem d_Mo_doOne_176 : decode b_Mo_doOne 176 = .ok (.iload_n 3, 1) := by decide +kernel
theorem d_Mo_doOne_177 : decode b_Mo_doOne 177 = .ok (.aload_n 0, 1) := by decide +kernel
theorem d_Mo_doOne_178 : decode b_Mo_doOne 178 = .ok (.getfield 28, 3) := by decide +kernel
theorem d_Mo_doOne_181 : decode b_Mo_doOne 181 = .ok (.aload_n 0, 1) := by decide +kernel
theorem d_Mo_doOne_182 : decode b_Mo_doOne 182 = .ok (.iload_n 1, 1) := by decide +kernel
theorem d_Mo_doOne_183 : decode b_Mo_doOne 183 = .ok (.invokevirtual 155, 3) := by decide +kernel
theorem d_Mo_doOne_186 : decode b_Mo_doOne 186 = .ok (.iaload, 1) := by decide +kernel
theorem d_Mo_doOne_187 : decode b_Mo_doOne 187 = .ok (.invokestatic 151, 3) := by decide +kernel
theorem d_Mo_doOne_190 : decode b_Mo_doOne 190 = .ok (.istore_n 3, 1) := by decide +kernel
theorem d_Mo_doOne_191 : decode b_Mo_doOne 191 = .ok (.iload_n 2, 1) := by decide +kernel
theorem d_Mo_doOne_192 : decode b_Mo_doOne 192 = .ok (.bipush 13, 2) := by decide +kernel
theorem d_Mo_doOne_194 : decode b_Mo_doOne 194 = .ok (.if_icmp .ne 12, 3) := by decide +kernel
theorem d_Mo_doOne_197 : decode b_Mo_doOne 197 = .ok (.iload_n 3, 1) := by decide +kernel
theorem d_Mo_doOne_198 : decode b_Mo_doOne 198 = .ok (.aload_n 0, 1) := by decide +kernel
theorem d_Mo_doOne_199 : decode b_Mo_doOne 199 = .ok (.getfield 83, 3) := by decide +kernel
theorem d_Mo_doOne_202 : decode b_Mo_doOne 202 = .ok (.invokestatic 151, 3) := by decide +kernel
theorem d_Mo_doOne_205 : decode b_Mo_doOne 205 = .ok (.istore_n 3, 1) := by decide +kernel
theorem d_Mo_doOne_206 : decode b_Mo_doOne 206 = .ok (.iload 4, 2) := by decide +kernel
theorem d_Mo_doOne_208 : decode b_Mo_doOne 208 = .ok (.ifCond .eq 12, 3) := by decide +kernel
theorem d_Mo_doOne_211 : decode b_Mo_doOne 211 = .ok (.iload_n 3, 1) := by decide +kernel
theorem d_Mo_doOne_212 : decode b_Mo_doOne 212 = .ok (.aload_n 0, 1) := by decide +kernel
theorem d_Mo_doOne_213 : decode b_Mo_doOne 213 = .ok (.getfield 80, 3) := by decide +kernel
theorem d_Mo_doOne_216 : decode b_Mo_doOne 216 = .ok (.invokestatic 151, 3) := by decide +kernel
theorem d_Mo_doOne_219 : decode b_Mo_doOne 219 = .ok (.istore_n 3, 1) := by decide +kernel
theorem d_Mo_doOne_220 : decode b_Mo_doOne 220 = .ok (.iload 8, 2) := by decide +kernel
theorem d_Mo_doOne_222 : decode b_Mo_doOne 222 = .ok (.ifCond .le 20, 3) := by decide +kernel
theorem d_Mo_doOne_225 : decode b_Mo_doOne 225 = .ok (.iload_n 3, 1) := by decide +kernel
theorem d_Mo_doOne_226 : decode b_Mo_doOne 226 = .ok (.aload_n 0, 1) := by decide +kernel
theorem d_Mo_doOne_227 : decode b_Mo_doOne 227 = .ok (.getfield 28, 3) := by decide +kernel
theorem d_Mo_doOne_230 : decode b_Mo_doOne 230 = .ok (.iload 8, 2) := by decide +kernel
theorem d_Mo_doOne_232 : decode b_Mo_doOne 232 = .ok (.iaload, 1) := by decide +kernel
theorem d_Mo_doOne_233 : decode b_Mo_doOne 233 = .ok (.iload 9, 2) := by decide +kernel
theorem d_Mo_doOne_235 : decode b_Mo_doOne 235 = .ok (.isub, 1) := by decide +kernel
theorem d_Mo_doOne_236 : decode b_Mo_doOne 236 = .ok (.iconst 1, 1) := by decide +kernel
theorem d_Mo_doOne_237 : decode b_Mo_doOne 237 = .ok (.iadd, 1) := by decide +kernel
theorem d_Mo_doOne_238 : decode b_Mo_doOne 238 = .ok (.invokestatic 151, 3) := by decide +kernel
theorem d_Mo_doOne_241 : decode b_Mo_doOne 241 = .ok (.istore_n 3, 1) := by decide +kernel
theorem d_Mo_doOne_242 : decode b_Mo_doOne 242 = .ok (.iload 8, 2) := by decide +kernel
theorem d_Mo_doOne_244 : decode b_Mo_doOne 244 = .ok (.ifCond .le 14, 3) := by decide +kernel
theorem d_Mo_doOne_247 : decode b_Mo_doOne 247 = .ok (.aload_n 0, 1) := by decide +kernel
theorem d_Mo_doOne_248 : decode b_Mo_doOne 248 = .ok (.getfield 28, 3) := by decide +kernel
theorem d_Mo_doOne_251 : decode b_Mo_doOne 251 = .ok (.iload 8, 2) := by decide +kernel
theorem d_Mo_doOne_253 : decode b_Mo_doOne 253 = .ok (.iload_n 3, 1) := by decide +kernel
theorem d_Mo_doOne_254 : decode b_Mo_doOne 254 = .ok (.iload 9, 2) := by decide +kernel
theorem d_Mo_doOne_256 : decode b_Mo_doOne 256 = .ok (.iadd, 1) := by decide +kernel
theorem d_Mo_doOne_257 : decode b_Mo_doOne 257 = .ok (.iastore, 1) := by decide +kernel
theorem d_Mo_doOne_258 : decode b_Mo_doOne 258 = .ok (.iload_n 2, 1) := by decide +kernel
theorem d_Mo_doOne_259 : decode b_Mo_doOne 259 = .ok (.bipush 13, 2) := by decide +kernel
theorem d_Mo_doOne_261 : decode b_Mo_doOne 261 = .ok (.if_icmp .ne 11, 3) := by decide +kernel
theorem d_Mo_doOne_264 : decode b_Mo_doOne 264 = .ok (.aload_n 0, 1) := by decide +kernel
theorem d_Mo_doOne_265 : decode b_Mo_doOne 265 = .ok (.iload_n 3, 1) := by decide +kernel
theorem d_Mo_doOne_266 : decode b_Mo_doOne 266 = .ok (.bipush 8, 2) := by decide +kernel
theorem d_Mo_doOne_268 : decode b_Mo_doOne 268 = .ok (.iadd, 1) := by decide +kernel
theorem d_Mo_doOne_269 : decode b_Mo_doOne 269 = .ok (.putfield 83, 3) := by decide +kernel
theorem d_Mo_doOne_272 : decode b_Mo_doOne 272 = .ok (.iload 4, 2) := by decide +kernel
theorem d_Mo_doOne_274 : decode b_Mo_doOne 274 = .ok (.ifCond .eq 13, 3) := by decide +kernel
theorem d_Mo_doOne_277 : decode b_Mo_doOne 277 = .ok (.aload_n 0, 1) := by decide +kernel
theorem d_Mo_doOne_278 : decode b_Mo_doOne 278 = .ok (.iload_n 3, 1) := by decide +kernel
theorem d_Mo_doOne_279 : decode b_Mo_doOne 279 = .ok (.iconst 1, 1) := by decide +kernel
theorem d_Mo_doOne_280 : decode b_Mo_doOne 280 = .ok (.iadd, 1) := by decide +kernel
theorem d_Mo_doOne_281 : decode b_Mo_doOne 281 = .ok (.iload 7, 2) := by decide +kernel
theorem d_Mo_doOne_283 : decode b_Mo_doOne 283 = .ok (.iadd, 1) := by decide +kernel
theorem d_Mo_doOne_284 : decode b_Mo_doOne 284 = .ok (.putfield 80, 3) := by decide +kernel
theorem d_Mo_doOne_287 : decode b_Mo_doOne 287 = .ok (.aload_n 0, 1) := by decide +kernel
theorem d_Mo_doOne_288 : decode b_Mo_doOne 288 = .ok (.iload_n 3, 1) := by decide +kernel
theorem d_Mo_doOne_289 : decode b_Mo_doOne 289 = .ok (.putfield 63, 3) := by decide +kernel
theorem d_Mo_doOne_292 : decode b_Mo_doOne 292 = .ok (.aload_n 0, 1) := by decide +kernel
theorem d_Mo_doOne_293 : decode b_Mo_doOne 293 = .ok (.dup, 1) := by decide +kernel
theorem d_Mo_doOne_294 : decode b_Mo_doOne 294 = .ok (.getfield 95, 3) := by decide +kernel
theorem d_Mo_doOne_297 : decode b_Mo_doOne 297 = .ok (.iconst 1, 1) := by decide +kernel
theorem d_Mo_doOne_298 : decode b_Mo_doOne 298 = .ok (.iadd, 1) := by decide +kernel
theorem d_Mo_doOne_299 : decode b_Mo_doOne 299 = .ok (.putfield 95, 3) := by decide +kernel
theorem d_Mo_doOne_302 : decode b_Mo_doOne 302 = .ok (.aload_n 0, 1) := by decide +kernel
theorem d_Mo_doOne_303 : decode b_Mo_doOne 303 = .ok (.iconst 0, 1) := by decide +kernel
theorem d_Mo_doOne_304 : decode b_Mo_doOne 304 = .ok (.putfield 98, 3) := by decide +kernel
theorem d_Mo_doOne_307 : decode b_Mo_doOne 307 = .ok (.aload_n 0, 1) := by decide +kernel
theorem d_Mo_doOne_308 : decode b_Mo_doOne 308 = .ok (.iload_n 1, 1) := by decide +kernel
theorem d_Mo_doOne_309 : decode b_Mo_doOne 309 = .ok (.invokevirtual 158, 3) := by decide +kernel
theorem d_Mo_doOne_312 : decode b_Mo_doOne 312 = .ok (.iload_n 2, 1) := by decide +kernel
theorem d_Mo_doOne_313 : decode b_Mo_doOne 313 = .ok (.ifCond .ne 11, 3) := by decide +kernel
theorem d_Mo_doOne_316 : decode b_Mo_doOne 316 = .ok (.aload_n 0, 1) := by decide +kernel
theorem d_Mo_doOne_317 : decode b_Mo_doOne 317 = .ok (.iconst 1, 1) := by decide +kernel
theorem d_Mo_doOne_318 : decode b_Mo_doOne 318 = .ok (.putfield 67, 3) := by decide +kernel
theorem d_Mo_doOne_321 : decode b_Mo_doOne 321 = .ok (.goto 12, 3) := by decide +kernel
theorem d_Mo_doOne_324 : decode b_Mo_doOne 324 = .ok (.aload_n 0, 1) := by decide +kernel
theorem d_Mo_doOne_325 : decode b_Mo_doOne 325 = .ok (.aload_n 0, 1) := by decide +kernel
theorem d_Mo_doOne_326 : decode b_Mo_doOne 326 = .ok (.iload_n 1, 1) := by decide +kernel
theorem d_Mo_doOne_327 : decode b_Mo_doOne 327 = .ok (.invokevirtual 162, 3) := by decide +kernel
theorem d_Mo_doOne_330 : decode b_Mo_doOne 330 = .ok (.putfield 113, 3) := by decide +kernel
theorem d_Mo_doOne_333 : decode b_Mo_doOne 333 = .ok (.return_, 1) := by decide +kernel
theorem d_Mo_run_0 : decode b_Mo_run 0 = .ok (.aload_n 0, 1) := by decide +kernel
theorem d_Mo_run_1 : decode b_Mo_run 1 = .ok (.iload_n 1, 1) := by decide +kernel
theorem d_Mo_run_2 : decode b_Mo_run 2 = .ok (.iconst 1, 1) := by decide +kernel
theorem d_Mo_run_3 : decode b_Mo_run 3 = .ok (.sipush 300, 3) := by decide +kernel
theorem d_Mo_run_6 : decode b_Mo_run 6 = .ok (.invokestatic 101, 3) := by decide +kernel
theorem d_Mo_run_9 : decode b_Mo_run 9 = .ok (.invokevirtual 105, 3) := by decide +kernel
theorem d_Mo_run_12 : decode b_Mo_run 12 = .ok (.ifCond .eq 5, 3) := by decide +kernel
theorem d_Mo_run_15 : decode b_Mo_run 15 = .ok (.iconst 0, 1) := by decide +kernel
theorem d_Mo_run_16 : decode b_Mo_run 16 = .ok (.ireturn, 1) := by decide +kernel
theorem d_Mo_run_17 : decode b_Mo_run 17 = .ok (.aload_n 0, 1) := by decide +kernel
theorem d_Mo_run_18 : decode b_Mo_run 18 = .ok (.getfield 67, 3) := by decide +kernel
theorem d_Mo_run_21 : decode b_Mo_run 21 = .ok (.ifCond .eq 10, 3) := by decide +kernel
theorem d_Mo_run_24 : decode b_Mo_run 24 = .ok (.aload_n 0, 1) := by decide +kernel
theorem d_Mo_run_25 : decode b_Mo_run 25 = .ok (.iconst 2, 1) := by decide +kernel
theorem d_Mo_run_26 : decode b_Mo_run 26 = .ok (.putfield 74, 3) := by decide +kernel
theorem d_Mo_run_29 : decode b_Mo_run 29 = .ok (.iconst 0, 1) := by decide +kernel
theorem d_Mo_run_30 : decode b_Mo_run 30 = .ok (.ireturn, 1) := by decide +kernel
theorem d_Mo_run_31 : decode b_Mo_run 31 = .ok (.aload_n 0, 1) := by decide +kernel
theorem d_Mo_run_32 : decode b_Mo_run 32 = .ok (.getfield 95, 3) := by decide +kernel
theorem d_Mo_run_35 : decode b_Mo_run 35 = .ok (.istore_n 2, 1) := by decide +kernel
theorem d_Mo_run_36 : decode b_Mo_run 36 = .ok (.aload_n 0, 1) := by decide +kernel
theorem d_Mo_run_37 : decode b_Mo_run 37 = .ok (.getfield 95, 3) := by decide +kernel
theorem d_Mo_run_40 : decode b_Mo_run 40 = .ok (.iload_n 2, 1) := by decide +kernel
theorem d_Mo_run_41 : decode b_Mo_run 41 = .ok (.isub, 1) := by decide +kernel
theorem d_Mo_run_42 : decode b_Mo_run 42 = .ok (.iload_n 1, 1) := by decide +kernel
theorem d_Mo_run_43 : decode b_Mo_run 43 = .ok (.if_icmp .ge 17, 3) := by decide +kernel
theorem d_Mo_run_46 : decode b_Mo_run 46 = .ok (.aload_n 0, 1) := by decide +kernel
theorem d_Mo_run_47 : decode b_Mo_run 47 = .ok (.getfield 67, 3) := by decide +kernel
theorem d_Mo_run_50 : decode b_Mo_run 50 = .ok (.ifCond .ne 10, 3) := by decide +kernel
theorem d_Mo_run_53 : decode b_Mo_run 53 = .ok (.aload_n 0, 1) := by decide +kernel
theorem d_Mo_run_54 : decode b_Mo_run 54 = .ok (.invokevirtual 165, 3) := by decide +kernel
theorem d_Mo_run_57 : decode b_Mo_run 57 = .ok (.goto (-21), 3) := by decide +kernel
theorem d_Mo_run_60 : decode b_Mo_run 60 = .ok (.aload_n 0, 1) := by decide +kernel
theorem d_Mo_run_61 : decode b_Mo_run 61 = .ok (.getfield 74, 3) := by decide +kernel
theorem d_Mo_run_64 : decode b_Mo_run 64 = .ok (.ifCond .le 7, 3) := by decide +kernel
theorem d_Mo_run_67 : decode b_Mo_run 67 = .ok (.iconst 0, 1) := by decide +kernel
theorem d_Mo_run_68 : decode b_Mo_run 68 = .ok (.goto 9, 3) := by decide +kernel
theorem d_Mo_run_71 : decode b_Mo_run 71 = .ok (.aload_n 0, 1) := by decide +kernel
theorem d_Mo_run_72 : decode b_Mo_run 72 = .ok (.getfield 95, 3) := by decide +kernel
theorem d_Mo_run_75 : decode b_Mo_run 75 = .ok (.iload_n 2, 1) := by decide +kernel
theorem d_Mo_run_76 : decode b_Mo_run 76 = .ok (.isub, 1) := by decide +kernel
theorem d_Mo_run_77 : decode b_Mo_run 77 = .ok (.ireturn, 1) := by decide +kernel
theorem d_Mo_leader_0 : decode b_Mo_leader 0 = .ok (.iload_n 1, 1) := by decide +kernel
theorem d_Mo_leader_1 : decode b_Mo_leader 1 = .ok (.ifCond .ne 5, 3) := by decide +kernel
theorem d_Mo_leader_4 : decode b_Mo_leader 4 = .ok (.iconst 1, 1) := by decide +kernel
theorem d_Mo_leader_5 : decode b_Mo_leader 5 = .ok (.ireturn, 1) := by decide +kernel
theorem d_Mo_leader_6 : decode b_Mo_leader 6 = .ok (.aload_n 0, 1) := by decide +kernel
theorem d_Mo_leader_7 : decode b_Mo_leader 7 = .ok (.getfield 7, 3) := by decide +kernel
theorem d_Mo_leader_10 : decode b_Mo_leader 10 = .ok (.iload_n 1, 1) := by decide +kernel
theorem d_Mo_leader_11 : decode b_Mo_leader 11 = .ok (.iconst 1, 1) := by decide +kernel
theorem d_Mo_leader_12 : decode b_Mo_leader 12 = .ok (.isub, 1) := by decide +kernel
theorem d_Mo_leader_13 : decode b_Mo_leader 13 = .ok (.iaload, 1) := by decide +kernel
theorem d_Mo_leader_14 : decode b_Mo_leader 14 = .ok (.ifCond .eq 16, 3) := by decide +kernel
theorem d_Mo_leader_17 : decode b_Mo_leader 17 = .ok (.aload_n 0, 1) := by decide +kernel
theorem d_Mo_leader_18 : decode b_Mo_leader 18 = .ok (.getfield 7, 3) := by decide +kernel
theorem d_Mo_leader_21 : decode b_Mo_leader 21 = .ok (.iload_n 1, 1) := by decide +kernel
theorem d_Mo_leader_22 : decode b_Mo_leader 22 = .ok (.iconst 1, 1) := by decide +kernel
theorem d_Mo_leader_23 : decode b_Mo_leader 23 = .ok (.isub, 1) := by decide +kernel
theorem d_Mo_leader_24 : decode b_Mo_leader 24 = .ok (.iaload, 1) := by decide +kernel
theorem d_Mo_leader_25 : decode b_Mo_leader 25 = .ok (.bipush 16, 2) := by decide +kernel
theorem d_Mo_leader_27 : decode b_Mo_leader 27 = .ok (.if_icmp .le 5, 3) := by decide +kernel
theorem d_Mo_leader_30 : decode b_Mo_leader 30 = .ok (.iconst 1, 1) := by decide +kernel
theorem d_Mo_leader_31 : decode b_Mo_leader 31 = .ok (.ireturn, 1) := by decide +kernel
theorem d_Mo_leader_32 : decode b_Mo_leader 32 = .ok (.iconst 0, 1) := by decide +kernel
theorem d_Mo_leader_33 : decode b_Mo_leader 33 = .ok (.istore_n 2, 1) := by decide +kernel
theorem d_Mo_leader_34 : decode b_Mo_leader 34 = .ok (.iload_n 2, 1) := by decide +kernel
theorem d_Mo_leader_35 : decode b_Mo_leader 35 = .ok (.bipush 24, 2) := by decide +kernel
theorem d_Mo_leader_37 : decode b_Mo_leader 37 = .ok (.if_icmp .ge 35, 3) := by decide +kernel
theorem d_Mo_leader_40 : decode b_Mo_leader 40 = .ok (.aload_n 0, 1) := by decide +kernel
theorem d_Mo_leader_41 : decode b_Mo_leader 41 = .ok (.getfield 7, 3) := by decide +kernel
theorem d_Mo_leader_44 : decode b_Mo_leader 44 = .ok (.iload_n 2, 1) := by decide +kernel
theorem d_Mo_leader_45 : decode b_Mo_leader 45 = .ok (.iaload, 1) := by decide +kernel
theorem d_Mo_leader_46 : decode b_Mo_leader 46 = .ok (.bipush 16, 2) := by decide +kernel
theorem d_Mo_leader_48 : decode b_Mo_leader 48 = .ok (.if_icmp .le 18, 3) := by decide +kernel
theorem d_Mo_leader_51 : decode b_Mo_leader 51 = .ok (.aload_n 0, 1) := by decide +kernel
theorem d_Mo_leader_52 : decode b_Mo_leader 52 = .ok (.getfield 22, 3) := by decide +kernel
theorem d_Mo_leader_55 : decode b_Mo_leader 55 = .ok (.iload_n 2, 1) := by decide +kernel
theorem d_Mo_leader_56 : decode b_Mo_leader 56 = .ok (.iaload, 1) := by decide +kernel
theorem d_Mo_leader_57 : decode b_Mo_leader 57 = .ok (.invokestatic 128, 3) := by decide +kernel
theorem d_Mo_leader_60 : decode b_Mo_leader 60 = .ok (.iload_n 1, 1) := by decide +kernel
theorem d_Mo_leader_61 : decode b_Mo_leader 61 = .ok (.if_icmp .ne 5, 3) := by decide +kernel
theorem d_Mo_leader_64 : decode b_Mo_leader 64 = .ok (.iconst 1, 1) := by decide +kernel
theorem d_Mo_leader_65 : decode b_Mo_leader 65 = .ok (.ireturn, 1) := by decide +kernel
theorem d_Mo_leader_66 : decode b_Mo_leader 66 = .ok (.iinc 2 1, 3) := by decide +kernel
theorem d_Mo_leader_69 : decode b_Mo_leader 69 = .ok (.goto (-35), 3) := by decide +kernel
theorem d_Mo_leader_72 : decode b_Mo_leader 72 = .ok (.iconst 0, 1) := by decide +kernel
theorem d_Mo_leader_73 : decode b_Mo_leader 73 = .ok (.ireturn, 1) := by decide +kernel
theorem d_Mo_reads_0 : decode b_Mo_reads 0 = .ok (.iload_n 2, 1) := by decide +kernel
theorem d_Mo_reads_1 : decode b_Mo_reads 1 = .ok (.ifCond .le 25, 3) := by decide +kernel
theorem d_Mo_reads_4 : decode b_Mo_reads 4 = .ok (.aload_n 0, 1) := by decide +kernel
theorem d_Mo_reads_5 : decode b_Mo_reads 5 = .ok (.iload_n 1, 1) := by decide +kernel
theorem d_Mo_reads_6 : decode b_Mo_reads 6 = .ok (.invokevirtual 148, 3) := by decide +kernel
theorem d_Mo_reads_9 : decode b_Mo_reads 9 = .ok (.iload_n 2, 1) := by decide +kernel
theorem d_Mo_reads_10 : decode b_Mo_reads 10 = .ok (.if_icmp .eq 12, 3) := by decide +kernel
theorem d_Mo_reads_13 : decode b_Mo_reads 13 = .ok (.aload_n 0, 1) := by decide +kernel
theorem d_Mo_reads_14 : decode b_Mo_reads 14 = .ok (.iload_n 1, 1) := by decide +kernel
theorem d_Mo_reads_15 : decode b_Mo_reads 15 = .ok (.invokevirtual 155, 3) := by decide +kernel
theorem d_Mo_reads_18 : decode b_Mo_reads 18 = .ok (.iload_n 2, 1) := by decide +kernel
theorem d_Mo_reads_19 : decode b_Mo_reads 19 = .ok (.if_icmp .ne 7, 3) := by decide +kernel
theorem d_Mo_reads_22 : decode b_Mo_reads 22 = .ok (.iconst 1, 1) := by decide +kernel
theorem d_Mo_reads_23 : decode b_Mo_reads 23 = .ok (.goto 4, 3) := by decide +kernel
theorem d_Mo_reads_26 : decode b_Mo_reads 26 = .ok (.iconst 0, 1) := by decide +kernel
theorem d_Mo_reads_27 : decode b_Mo_reads 27 = .ok (.ireturn, 1) := by decide +kernel
theorem d_Mo_tied_0 : decode b_Mo_tied 0 = .ok (.aload_n 0, 1) := by decide +kernel
theorem d_Mo_tied_1 : decode b_Mo_tied 1 = .ok (.iload_n 1, 1) := by decide +kernel
theorem d_Mo_tied_2 : decode b_Mo_tied 2 = .ok (.invokevirtual 142, 3) := by decide +kernel
theorem d_Mo_tied_5 : decode b_Mo_tied 5 = .ok (.istore_n 3, 1) := by decide +kernel
theorem d_Mo_tied_6 : decode b_Mo_tied 6 = .ok (.aload_n 0, 1) := by decide +kernel
theorem d_Mo_tied_7 : decode b_Mo_tied 7 = .ok (.iload_n 2, 1) := by decide +kernel
theorem d_Mo_tied_8 : decode b_Mo_tied 8 = .ok (.invokevirtual 142, 3) := by decide +kernel
theorem d_Mo_tied_11 : decode b_Mo_tied 11 = .ok (.istore 4, 2) := by decide +kernel
theorem d_Mo_tied_13 : decode b_Mo_tied 13 = .ok (.aload_n 0, 1) := by decide +kernel
theorem d_Mo_tied_14 : decode b_Mo_tied 14 = .ok (.iload_n 2, 1) := by decide +kernel
theorem d_Mo_tied_15 : decode b_Mo_tied 15 = .ok (.iload_n 3, 1) := by decide +kernel
theorem d_Mo_tied_16 : decode b_Mo_tied 16 = .ok (.invokevirtual 168, 3) := by decide +kernel
theorem d_Mo_tied_19 : decode b_Mo_tied 19 = .ok (.ifCond .ne 55, 3) := by decide +kernel
theorem d_Mo_tied_22 : decode b_Mo_tied 22 = .ok (.aload_n 0, 1) := by decide +kernel
theorem d_Mo_tied_23 : decode b_Mo_tied 23 = .ok (.iload_n 1, 1) := by decide +kernel
theorem d_Mo_tied_24 : decode b_Mo_tied 24 = .ok (.iload 4, 2) := by decide +kernel
theorem d_Mo_tied_26 : decode b_Mo_tied 26 = .ok (.invokevirtual 168, 3) := by decide +kernel
theorem d_Mo_tied_29 : decode b_Mo_tied 29 = .ok (.ifCond .ne 45, 3) := by decide +kernel
theorem d_Mo_tied_32 : decode b_Mo_tied 32 = .ok (.iload_n 3, 1) := by decide +kernel
theorem d_Mo_tied_33 : decode b_Mo_tied 33 = .ok (.ifCond .le 9, 3) := by decide +kernel
theorem d_Mo_tied_36 : decode b_Mo_tied 36 = .ok (.iload_n 3, 1) := by decide +kernel
theorem d_Mo_tied_37 : decode b_Mo_tied 37 = .ok (.iload 4, 2) := by decide +kernel
theorem d_Mo_tied_39 : decode b_Mo_tied 39 = .ok (.if_icmp .eq 35, 3) := by decide +kernel
theorem d_Mo_tied_42 : decode b_Mo_tied 42 = .ok (.aload_n 0, 1) := by decide +kernel
theorem d_Mo_tied_43 : decode b_Mo_tied 43 = .ok (.getfield 7, 3) := by decide +kernel
theorem d_Mo_tied_46 : decode b_Mo_tied 46 = .ok (.iload_n 1, 1) := by decide +kernel
theorem d_Mo_tied_47 : decode b_Mo_tied 47 = .ok (.iaload, 1) := by decide +kernel
theorem d_Mo_tied_48 : decode b_Mo_tied 48 = .ok (.bipush 6, 2) := by decide +kernel
theorem d_Mo_tied_50 : decode b_Mo_tied 50 = .ok (.bipush 13, 2) := by decide +kernel
theorem d_Mo_tied_52 : decode b_Mo_tied 52 = .ok (.invokestatic 101, 3) := by decide +kernel
theorem d_Mo_tied_55 : decode b_Mo_tied 55 = .ok (.ifCond .eq 23, 3) := by decide +kernel
theorem d_Mo_tied_58 : decode b_Mo_tied 58 = .ok (.aload_n 0, 1) := by decide +kernel
theorem d_Mo_tied_59 : decode b_Mo_tied 59 = .ok (.getfield 7, 3) := by decide +kernel
theorem d_Mo_tied_62 : decode b_Mo_tied 62 = .ok (.iload_n 2, 1) := by decide +kernel
theorem d_Mo_tied_63 : decode b_Mo_tied 63 = .ok (.iaload, 1) := by decide +kernel
theorem d_Mo_tied_64 : decode b_Mo_tied 64 = .ok (.bipush 6, 2) := by decide +kernel
theorem d_Mo_tied_66 : decode b_Mo_tied 66 = .ok (.bipush 13, 2) := by decide +kernel
theorem d_Mo_tied_68 : decode b_Mo_tied 68 = .ok (.invokestatic 101, 3) := by decide +kernel
theorem d_Mo_tied_71 : decode b_Mo_tied 71 = .ok (.ifCond .eq 7, 3) := by decide +kernel
theorem d_Mo_tied_74 : decode b_Mo_tied 74 = .ok (.iconst 1, 1) := by decide +kernel
theorem d_Mo_tied_75 : decode b_Mo_tied 75 = .ok (.goto 4, 3) := by decide +kernel
theorem d_Mo_tied_78 : decode b_Mo_tied 78 = .ok (.iconst 0, 1) := by decide +kernel
theorem d_Mo_tied_79 : decode b_Mo_tied 79 = .ok (.ireturn, 1) := by decide +kernel
theorem d_Mo_findHeights_0 : decode b_Mo_findHeights 0 = .ok (.iload_n 2, 1) := by decide +kernel
theorem d_Mo_findHeights_1 : decode b_Mo_findHeights 1 = .ok (.iconst 1, 1) := by decide +kernel
theorem d_Mo_findHeights_2 : decode b_Mo_findHeights 2 = .ok (.isub, 1) := by decide +kernel
theorem d_Mo_findHeights_3 : decode b_Mo_findHeights 3 = .ok (.istore_n 3, 1) := by decide +kernel
theorem d_Mo_findHeights_4 : decode b_Mo_findHeights 4 = .ok (.iload_n 3, 1) := by decide +kernel
theorem d_Mo_findHeights_5 : decode b_Mo_findHeights 5 = .ok (.iload_n 1, 1) := by decide +kernel
theorem d_Mo_findHeights_6 : decode b_Mo_findHeights 6 = .ok (.if_icmp .lt 99, 3) := by decide +kernel
theorem d_Mo_findHeights_9 : decode b_Mo_findHeights 9 = .ok (.aload_n 0, 1) := by decide +kernel
theorem d_Mo_findHeights_10 : decode b_Mo_findHeights 10 = .ok (.getfield 50, 3) := by decide +kernel
theorem d_Mo_findHeights_13 : decode b_Mo_findHeights 13 = .ok (.iload_n 3, 1) := by decide +kernel
theorem d_Mo_findHeights_14 : decode b_Mo_findHeights 14 = .ok (.iconst 0, 1) := by decide +kernel
theorem d_Mo_findHeights_15 : decode b_Mo_findHeights 15 = .ok (.iastore, 1) := by decide +kernel
theorem d_Mo_findHeights_16 : decode b_Mo_findHeights 16 = .ok (.aload_n 0, 1) := by decide +kernel
theorem d_Mo_findHeights_17 : decode b_Mo_findHeights 17 = .ok (.getfield 59, 3) := by decide +kernel
theorem d_Mo_findHeights_20 : decode b_Mo_findHeights 20 = .ok (.iload_n 3, 1) := by decide +kernel
theorem d_Mo_findHeights_21 : decode b_Mo_findHeights 21 = .ok (.iconst 0, 1) := by decide +kernel
theorem d_Mo_findHeights_22 : decode b_Mo_findHeights 22 = .ok (.bastore, 1) := by decide +kernel
theorem d_Mo_findHeights_23 : decode b_Mo_findHeights 23 = .ok (.iload_n 3, 1) := by decide +kernel
theorem d_Mo_findHeights_24 : decode b_Mo_findHeights 24 = .ok (.iconst 1, 1) := by decide +kernel
theorem d_Mo_findHeights_25 : decode b_Mo_findHeights 25 = .ok (.iadd, 1) := by decide +kernel
theorem d_Mo_findHeights_26 : decode b_Mo_findHeights 26 = .ok (.istore 4, 2) := by decide +kernel
theorem d_Mo_findHeights_28 : decode b_Mo_findHeights 28 = .ok (.iload 4, 2) := by decide +kernel
theorem d_Mo_findHeights_30 : decode b_Mo_findHeights 30 = .ok (.iload_n 2, 1) := by decide +kernel
theorem d_Mo_findHeights_31 : decode b_Mo_findHeights 31 = .ok (.if_icmp .ge 68, 3) := by decide +kernel
theorem d_Mo_findHeights_34 : decode b_Mo_findHeights 34 = .ok (.aload_n 0, 1) := by decide +kernel
theorem d_Mo_findHeights_35 : decode b_Mo_findHeights 35 = .ok (.iload_n 3, 1) := by decide +kernel
theorem d_Mo_findHeights_36 : decode b_Mo_findHeights 36 = .ok (.iload 4, 2) := by decide +kernel
theorem d_Mo_findHeights_38 : decode b_Mo_findHeights 38 = .ok (.invokevirtual 172, 3) := by decide +kernel
theorem d_Mo_findHeights_41 : decode b_Mo_findHeights 41 = .ok (.ifCond .ne 6, 3) := by decide +kernel
theorem d_Mo_findHeights_44 : decode b_Mo_findHeights 44 = .ok (.goto 49, 3) := by decide +kernel
theorem d_Mo_findHeights_47 : decode b_Mo_findHeights 47 = .ok (.aload_n 0, 1) := by decide +kernel
theorem d_Mo_findHeights_48 : decode b_Mo_findHeights 48 = .ok (.getfield 50, 3) := by decide +kernel
theorem d_Mo_findHeights_51 : decode b_Mo_findHeights 51 = .ok (.iload_n 3, 1) := by decide +kernel
theorem d_Mo_findHeights_52 : decode b_Mo_findHeights 52 = .ok (.aload_n 0, 1) := by decide +kernel
theorem d_Mo_findHeights_53 : decode b_Mo_findHeights 53 = .ok (.getfield 50, 3) := by decide +kernel
theorem d_Mo_findHeights_56 : decode b_Mo_findHeights 56 = .ok (.iload_n 3, 1) := by decide +kernel
theorem d_Mo_findHeights_57 : decode b_Mo_findHeights 57 = .ok (.iaload, 1) := by decide +kernel
theorem d_Mo_findHeights_58 : decode b_Mo_findHeights 58 = .ok (.aload_n 0, 1) := by decide +kernel
theorem d_Mo_findHeights_59 : decode b_Mo_findHeights 59 = .ok (.getfield 50, 3) := by decide +kernel
theorem d_Mo_findHeights_62 : decode b_Mo_findHeights 62 = .ok (.iload 4, 2) := by decide +kernel
theorem d_Mo_findHeights_64 : decode b_Mo_findHeights 64 = .ok (.iaload, 1) := by decide +kernel
theorem d_Mo_findHeights_65 : decode b_Mo_findHeights 65 = .ok (.aload_n 0, 1) := by decide +kernel
theorem d_Mo_findHeights_66 : decode b_Mo_findHeights 66 = .ok (.iload 4, 2) := by decide +kernel
theorem d_Mo_findHeights_68 : decode b_Mo_findHeights 68 = .ok (.aload_n 0, 1) := by decide +kernel
theorem d_Mo_findHeights_69 : decode b_Mo_findHeights 69 = .ok (.iload_n 3, 1) := by decide +kernel
theorem d_Mo_findHeights_70 : decode b_Mo_findHeights 70 = .ok (.invokevirtual 142, 3) := by decide +kernel
theorem d_Mo_findHeights_73 : decode b_Mo_findHeights 73 = .ok (.invokevirtual 168, 3) := by decide +kernel
theorem d_Mo_findHeights_76 : decode b_Mo_findHeights 76 = .ok (.ifCond .eq 11, 3) := by decide +kernel
theorem d_Mo_findHeights_79 : decode b_Mo_findHeights 79 = .ok (.aload_n 0, 1) := by decide +kernel
theorem d_Mo_findHeights_80 : decode b_Mo_findHeights 80 = .ok (.iload_n 3, 1) := by decide +kernel
theorem d_Mo_findHeights_81 : decode b_Mo_findHeights 81 = .ok (.invokevirtual 145, 3) := by decide +kernel
theorem d_Mo_findHeights_84 : decode b_Mo_findHeights 84 = .ok (.goto 4, 3) := by decide +kernel
theorem d_Mo_findHeights_87 : decode b_Mo_findHeights 87 = .ok (.iconst 1, 1) := by decide +kernel
theorem d_Mo_findHeights_88 : decode b_Mo_findHeights 88 = .ok (.iadd, 1) := by decide +kernel
theorem d_Mo_findHeights_89 : decode b_Mo_findHeights 89 = .ok (.invokestatic 151, 3) := by decide +kernel
theorem d_Mo_findHeights_92 : decode b_Mo_findHeights 92 = .ok (.iastore, 1) := by decide +kernel
theorem d_Mo_findHeights_93 : decode b_Mo_findHeights 93 = .ok (.iinc 4 1, 3) := by decide +kernel
theorem d_Mo_findHeights_96 : decode b_Mo_findHeights 96 = .ok (.goto (-68), 3) := by decide +kernel
theorem d_Mo_findHeights_99 : decode b_Mo_findHeights 99 = .ok (.iinc 3 (-1), 3) := by decide +kernel
theorem d_Mo_findHeights_102 : decode b_Mo_findHeights 102 = .ok (.goto (-98), 3) := by decide +kernel
theorem d_Mo_findHeights_105 : decode b_Mo_findHeights 105 = .ok (.return_, 1) := by decide +kernel
theorem d_Mo_free_0 : decode b_Mo_free 0 = .ok (.aload_n 0, 1) := by decide +kernel
theorem d_Mo_free_1 : decode b_Mo_free 1 = .ok (.getfield 59, 3) := by decide +kernel
theorem d_Mo_free_4 : decode b_Mo_free 4 = .ok (.iload_n 1, 1) := by decide +kernel
theorem d_Mo_free_5 : decode b_Mo_free 5 = .ok (.baload, 1) := by decide +kernel
theorem d_Mo_free_6 : decode b_Mo_free 6 = .ok (.ifCond .eq 5, 3) := by decide +kernel
theorem d_Mo_free_9 : decode b_Mo_free 9 = .ok (.iconst 0, 1) := by decide +kernel
theorem d_Mo_free_10 : decode b_Mo_free 10 = .ok (.ireturn, 1) := by decide +kernel
theorem d_Mo_free_11 : decode b_Mo_free 11 = .ok (.iload_n 2, 1) := by decide +kernel
theorem d_Mo_free_12 : decode b_Mo_free 12 = .ok (.istore_n 3, 1) := by decide +kernel
theorem d_Mo_free_13 : decode b_Mo_free 13 = .ok (.iload_n 3, 1) := by decide +kernel
theorem d_Mo_free_14 : decode b_Mo_free 14 = .ok (.iload_n 1, 1) := by decide +kernel
theorem d_Mo_free_15 : decode b_Mo_free 15 = .ok (.if_icmp .ge 29, 3) := by decide +kernel
theorem d_Mo_free_18 : decode b_Mo_free 18 = .ok (.aload_n 0, 1) := by decide +kernel
theorem d_Mo_free_19 : decode b_Mo_free 19 = .ok (.getfield 59, 3) := by decide +kernel
theorem d_Mo_free_22 : decode b_Mo_free 22 = .ok (.iload_n 3, 1) := by decide +kernel
theorem d_Mo_free_23 : decode b_Mo_free 23 = .ok (.baload, 1) := by decide +kernel
theorem d_Mo_free_24 : decode b_Mo_free 24 = .ok (.ifCond .ne 14, 3) := by decide +kernel
theorem d_Mo_free_27 : decode b_Mo_free 27 = .ok (.aload_n 0, 1) := by decide +kernel
theorem d_Mo_free_28 : decode b_Mo_free 28 = .ok (.iload_n 3, 1) := by decide +kernel
theorem d_Mo_free_29 : decode b_Mo_free 29 = .ok (.iload_n 1, 1) := by decide +kernel
theorem d_Mo_free_30 : decode b_Mo_free 30 = .ok (.invokevirtual 172, 3) := by decide +kernel
theorem d_Mo_free_33 : decode b_Mo_free 33 = .ok (.ifCond .eq 5, 3) := by decide +kernel
theorem d_Mo_free_36 : decode b_Mo_free 36 = .ok (.iconst 0, 1) := by decide +kernel
theorem d_Mo_free_37 : decode b_Mo_free 37 = .ok (.ireturn, 1) := by decide +kernel
theorem d_Mo_free_38 : decode b_Mo_free 38 = .ok (.iinc 3 1, 3) := by decide +kernel
theorem d_Mo_free_41 : decode b_Mo_free 41 = .ok (.goto (-28), 3) := by decide +kernel
theorem d_Mo_free_44 : decode b_Mo_free 44 = .ok (.iconst 1, 1) := by decide +kernel
theorem d_Mo_free_45 : decode b_Mo_free 45 = .ok (.ireturn, 1) := by decide +kernel
theorem d_Mo_move_0 : decode b_Mo_move 0 = .ok (.aload_n 0, 1) := by decide +kernel
theorem d_Mo_move_1 : decode b_Mo_move 1 = .ok (.getfield 56, 3) := by decide +kernel
theorem d_Mo_move_4 : decode b_Mo_move 4 = .ok (.iload_n 1, 1) := by decide +kernel
theorem d_Mo_move_5 : decode b_Mo_move 5 = .ok (.iconst 5, 1) := by decide +kernel
theorem d_Mo_move_6 : decode b_Mo_move 6 = .ok (.imul, 1) := by decide +kernel
theorem d_Mo_move_7 : decode b_Mo_move 7 = .ok (.aload_n 0, 1) := by decide +kernel
theorem d_Mo_move_8 : decode b_Mo_move 8 = .ok (.getfield 7, 3) := by decide +kernel
theorem d_Mo_move_11 : decode b_Mo_move 11 = .ok (.iload_n 2, 1) := by decide +kernel
theorem d_Mo_move_12 : decode b_Mo_move 12 = .ok (.iaload, 1) := by decide +kernel
theorem d_Mo_move_13 : decode b_Mo_move 13 = .ok (.iastore, 1) := by decide +kernel
theorem d_Mo_move_14 : decode b_Mo_move 14 = .ok (.aload_n 0, 1) := by decide +kernel
theorem d_Mo_move_15 : decode b_Mo_move 15 = .ok (.getfield 56, 3) := by decide +kernel
theorem d_Mo_move_18 : decode b_Mo_move 18 = .ok (.iload_n 1, 1) := by decide +kernel
theorem d_Mo_move_19 : decode b_Mo_move 19 = .ok (.iconst 5, 1) := by decide +kernel
theorem d_Mo_move_20 : decode b_Mo_move 20 = .ok (.imul, 1) := by decide +kernel
theorem d_Mo_move_21 : decode b_Mo_move 21 = .ok (.iconst 1, 1) := by decide +kernel
theorem d_Mo_move_22 : decode b_Mo_move 22 = .ok (.iadd, 1) := by decide +kernel
theorem d_Mo_move_23 : decode b_Mo_move 23 = .ok (.aload_n 0, 1) := by decide +kernel
theorem d_Mo_move_24 : decode b_Mo_move 24 = .ok (.getfield 13, 3) := by decide +kernel
theorem d_Mo_move_27 : decode b_Mo_move 27 = .ok (.iload_n 2, 1) := by decide +kernel
theorem d_Mo_move_28 : decode b_Mo_move 28 = .ok (.iaload, 1) := by decide +kernel
theorem d_Mo_move_29 : decode b_Mo_move 29 = .ok (.iastore, 1) := by decide +kernel
theorem d_Mo_move_30 : decode b_Mo_move 30 = .ok (.aload_n 0, 1) := by decide +kernel
theorem d_Mo_move_31 : decode b_Mo_move 31 = .ok (.getfield 56, 3) := by decide +kernel
theorem d_Mo_move_34 : decode b_Mo_move 34 = .ok (.iload_n 1, 1) := by decide +kernel
theorem d_Mo_move_35 : decode b_Mo_move 35 = .ok (.iconst 5, 1) := by decide +kernel
theorem d_Mo_move_36 : decode b_Mo_move 36 = .ok (.imul, 1) := by decide +kernel
theorem d_Mo_move_37 : decode b_Mo_move 37 = .ok (.iconst 2, 1) := by decide +kernel
theorem d_Mo_move_38 : decode b_Mo_move 38 = .ok (.iadd, 1) := by decide +kernel
theorem d_Mo_move_39 : decode b_Mo_move 39 = .ok (.aload_n 0, 1) := by decide +kernel
theorem d_Mo_move_40 : decode b_Mo_move 40 = .ok (.getfield 16, 3) := by decide +kernel
theorem d_Mo_move_43 : decode b_Mo_move 43 = .ok (.iload_n 2, 1) := by decide +kernel
theorem d_Mo_move_44 : decode b_Mo_move 44 = .ok (.iaload, 1) := by decide +kernel
theorem d_Mo_move_45 : decode b_Mo_move 45 = .ok (.iastore, 1) := by decide +kernel
theorem d_Mo_move_46 : decode b_Mo_move 46 = .ok (.aload_n 0, 1) := by decide +kernel
theorem d_Mo_move_47 : decode b_Mo_move 47 = .ok (.getfield 56, 3) := by decide +kernel
theorem d_Mo_move_50 : decode b_Mo_move 50 = .ok (.iload_n 1, 1) := by decide +kernel
theorem d_Mo_move_51 : decode b_Mo_move 51 = .ok (.iconst 5, 1) := by decide +kernel
theorem d_Mo_move_52 : decode b_Mo_move 52 = .ok (.imul, 1) := by decide +kernel
theorem d_Mo_move_53 : decode b_Mo_move 53 = .ok (.iconst 3, 1) := by decide +kernel
theorem d_Mo_move_54 : decode b_Mo_move 54 = .ok (.iadd, 1) := by decide +kernel
theorem d_Mo_move_55 : decode b_Mo_move 55 = .ok (.aload_n 0, 1) := by decide +kernel
theorem d_Mo_move_56 : decode b_Mo_move 56 = .ok (.getfield 19, 3) := by decide +kernel
theorem d_Mo_move_59 : decode b_Mo_move 59 = .ok (.iload_n 2, 1) := by decide +kernel
theorem d_Mo_move_60 : decode b_Mo_move 60 = .ok (.iaload, 1) := by decide +kernel
theorem d_Mo_move_61 : decode b_Mo_move 61 = .ok (.iastore, 1) := by decide +kernel
theorem d_Mo_move_62 : decode b_Mo_move 62 = .ok (.aload_n 0, 1) := by decide +kernel
theorem d_Mo_move_63 : decode b_Mo_move 63 = .ok (.getfield 56, 3) := by decide +kernel
theorem d_Mo_move_66 : decode b_Mo_move 66 = .ok (.iload_n 1, 1) := by decide +kernel
theorem d_Mo_move_67 : decode b_Mo_move 67 = .ok (.iconst 5, 1) := by decide +kernel
theorem d_Mo_move_68 : decode b_Mo_move 68 = .ok (.imul, 1) := by decide +kernel
theorem d_Mo_move_69 : decode b_Mo_move 69 = .ok (.iconst 4, 1) := by decide +kernel
theorem d_Mo_move_70 : decode b_Mo_move 70 = .ok (.iadd, 1) := by decide +kernel
theorem d_Mo_move_71 : decode b_Mo_move 71 = .ok (.aload_n 0, 1) := by decide +kernel
theorem d_Mo_move_72 : decode b_Mo_move 72 = .ok (.getfield 22, 3) := by decide +kernel
theorem d_Mo_move_75 : decode b_Mo_move 75 = .ok (.iload_n 2, 1) := by decide +kernel
theorem d_Mo_move_76 : decode b_Mo_move 76 = .ok (.iaload, 1) := by decide +kernel
theorem d_Mo_move_77 : decode b_Mo_move 77 = .ok (.iastore, 1) := by decide +kernel
theorem d_Mo_move_78 : decode b_Mo_move 78 = .ok (.return_, 1) := by decide +kernel
theorem d_Mo_schedule_0 : decode b_Mo_schedule 0 = .ok (.aload_n 0, 1) := by decide +kernel
theorem d_Mo_schedule_1 : decode b_Mo_schedule 1 = .ok (.iconst 0, 1) := by decide +kernel
theorem d_Mo_schedule_2 : decode b_Mo_schedule 2 = .ok (.putfield 74, 3) := by decide +kernel
theorem d_Mo_schedule_5 : decode b_Mo_schedule 5 = .ok (.iconst 0, 1) := by decide +kernel
theorem d_Mo_schedule_6 : decode b_Mo_schedule 6 = .ok (.istore_n 1, 1) := by decide +kernel
theorem d_Mo_schedule_7 : decode b_Mo_schedule 7 = .ok (.iconst 0, 1) := by decide +kernel
theorem d_Mo_schedule_8 : decode b_Mo_schedule 8 = .ok (.istore_n 2, 1) := by decide +kernel
theorem d_Mo_schedule_9 : decode b_Mo_schedule 9 = .ok (.iconst 0, 1) := by decide +kernel
theorem d_Mo_schedule_10 : decode b_Mo_schedule 10 = .ok (.istore_n 3, 1) := by decide +kernel
theorem d_Mo_schedule_11 : decode b_Mo_schedule 11 = .ok (.iload_n 3, 1) := by decide +kernel
theorem d_Mo_schedule_12 : decode b_Mo_schedule 12 = .ok (.bipush 24, 2) := by decide +kernel
theorem d_Mo_schedule_14 : decode b_Mo_schedule 14 = .ok (.if_icmp .ge 16, 3) := by decide +kernel
theorem d_Mo_schedule_17 : decode b_Mo_schedule 17 = .ok (.aload_n 0, 1) := by decide +kernel
theorem d_Mo_schedule_18 : decode b_Mo_schedule 18 = .ok (.getfield 53, 3) := by decide +kernel
theorem d_Mo_schedule_21 : decode b_Mo_schedule 21 = .ok (.iload_n 3, 1) := by decide +kernel
theorem d_Mo_schedule_22 : decode b_Mo_schedule 22 = .ok (.iload_n 3, 1) := by decide +kernel
theorem d_Mo_schedule_23 : decode b_Mo_schedule 23 = .ok (.iastore, 1) := by decide +kernel
theorem d_Mo_schedule_24 : decode b_Mo_schedule 24 = .ok (.iinc 3 1, 3) := by decide +kernel
theorem d_Mo_schedule_27 : decode b_Mo_schedule 27 = .ok (.goto (-16), 3) := by decide +kernel
theorem d_Mo_schedule_30 : decode b_Mo_schedule 30 = .ok (.iload_n 2, 1) := by decide +kernel
theorem d_Mo_schedule_31 : decode b_Mo_schedule 31 = .ok (.bipush 24, 2) := by decide +kernel
theorem d_Mo_schedule_33 : decode b_Mo_schedule 33 = .ok (.if_icmp .ge 168, 3) := by decide +kernel
theorem d_Mo_schedule_36 : decode b_Mo_schedule 36 = .ok (.iload_n 2, 1) := by decide +kernel
theorem d_Mo_schedule_37 : decode b_Mo_schedule 37 = .ok (.istore_n 3, 1) := by decide +kernel
theorem d_Mo_schedule_38 : decode b_Mo_schedule 38 = .ok (.iload_n 3, 1) := by decide +kernel
theorem d_Mo_schedule_39 : decode b_Mo_schedule 39 = .ok (.bipush 24, 2) := by decide +kernel
theorem d_Mo_schedule_41 : decode b_Mo_schedule 41 = .ok (.if_icmp .ge 42, 3) := by decide +kernel
theorem d_Mo_schedule_44 : decode b_Mo_schedule 44 = .ok (.aload_n 0, 1) := by decide +kernel
theorem d_Mo_schedule_45 : decode b_Mo_schedule 45 = .ok (.getfield 7, 3) := by decide +kernel
theorem d_Mo_schedule_48 : decode b_Mo_schedule 48 = .ok (.iload_n 3, 1) := by decide +kernel
theorem d_Mo_schedule_49 : decode b_Mo_schedule 49 = .ok (.iaload, 1) := by decide +kernel
theorem d_Mo_schedule_50 : decode b_Mo_schedule 50 = .ok (.ifCond .le 33, 3) := by decide +kernel
theorem d_Mo_schedule_53 : decode b_Mo_schedule 53 = .ok (.aload_n 0, 1) := by decide +kernel
theorem d_Mo_schedule_54 : decode b_Mo_schedule 54 = .ok (.getfield 7, 3) := by decide +kernel
theorem d_Mo_schedule_57 : decode b_Mo_schedule 57 = .ok (.iload_n 3, 1) := by decide +kernel
theorem d_Mo_schedule_58 : decode b_Mo_schedule 58 = .ok (.iaload, 1) := by decide +kernel
theorem d_Mo_schedule_59 : decode b_Mo_schedule 59 = .ok (.bipush 17, 2) := by decide +kernel
theorem d_Mo_schedule_61 : decode b_Mo_schedule 61 = .ok (.if_icmp .ge 22, 3) := by decide +kernel
theorem d_Mo_schedule_64 : decode b_Mo_schedule 64 = .ok (.iload_n 3, 1) := by decide +kernel
theorem d_Mo_schedule_65 : decode b_Mo_schedule 65 = .ok (.iload_n 2, 1) := by decide +kernel
theorem d_Mo_schedule_66 : decode b_Mo_schedule 66 = .ok (.if_icmp .eq 11, 3) := by decide +kernel
theorem d_Mo_schedule_69 : decode b_Mo_schedule 69 = .ok (.aload_n 0, 1) := by decide +kernel
theorem d_Mo_schedule_70 : decode b_Mo_schedule 70 = .ok (.iload_n 3, 1) := by decide +kernel
theorem d_Mo_schedule_71 : decode b_Mo_schedule 71 = .ok (.invokevirtual 175, 3) := by decide +kernel
theorem d_Mo_schedule_74 : decode b_Mo_schedule 74 = .ok (.ifCond .ne 9, 3) := by decide +kernel
theorem d_Mo_schedule_77 : decode b_Mo_schedule 77 = .ok (.iinc 3 1, 3) := by decide +kernel
theorem d_Mo_schedule_80 : decode b_Mo_schedule 80 = .ok (.goto (-42), 3) := by decide +kernel
theorem d_Mo_schedule_83 : decode b_Mo_schedule 83 = .ok (.aload_n 0, 1) := by decide +kernel
theorem d_Mo_schedule_84 : decode b_Mo_schedule 84 = .ok (.iload_n 2, 1) := by decide +kernel
theorem d_Mo_schedule_85 : decode b_Mo_schedule 85 = .ok (.iload_n 3, 1) := by decide +kernel
theorem d_Mo_schedule_86 : decode b_Mo_schedule 86 = .ok (.invokevirtual 178, 3) := by decide +kernel
theorem d_Mo_schedule_89 : decode b_Mo_schedule 89 = .ok (.iload_n 2, 1) := by decide +kernel
theorem d_Mo_schedule_90 : decode b_Mo_schedule 90 = .ok (.istore 4, 2) := by decide +kernel
theorem d_Mo_schedule_92 : decode b_Mo_schedule 92 = .ok (.iload 4, 2) := by decide +kernel
theorem d_Mo_schedule_94 : decode b_Mo_schedule 94 = .ok (.iload_n 3, 1) := by decide +kernel
theorem d_Mo_schedule_95 : decode b_Mo_schedule 95 = .ok (.if_icmp .ge 90, 3) := by decide +kernel
theorem d_Mo_schedule_98 : decode b_Mo_schedule 98 = .ok (.iconst (-1), 1) := by decide +kernel
theorem d_Mo_schedule_99 : decode b_Mo_schedule 99 = .ok (.istore 5, 2) := by decide +kernel
theorem d_Mo_schedule_101 : decode b_Mo_schedule 101 = .ok (.iload_n 2, 1) := by decide +kernel
theorem d_Mo_schedule_102 : decode b_Mo_schedule 102 = .ok (.istore 6, 2) := by decide +kernel
theorem d_Mo_schedule_104 : decode b_Mo_schedule 104 = .ok (.iload 6, 2) := by decide +kernel
theorem d_Mo_schedule_106 : decode b_Mo_schedule 106 = .ok (.iload_n 3, 1) := by decide +kernel
theorem d_Mo_schedule_107 : decode b_Mo_schedule 107 = .ok (.if_icmp .ge 45, 3) := by decide +kernel
theorem d_Mo_schedule_110 : decode b_Mo_schedule 110 = .ok (.aload_n 0, 1) := by decide +kernel
theorem d_Mo_schedule_111 : decode b_Mo_schedule 111 = .ok (.iload 6, 2) := by decide +kernel
theorem d_Mo_schedule_113 : decode b_Mo_schedule 113 = .ok (.iload_n 2, 1) := by decide +kernel
theorem d_Mo_schedule_114 : decode b_Mo_schedule 114 = .ok (.invokevirtual 181, 3) := by decide +kernel
theorem d_Mo_schedule_117 : decode b_Mo_schedule 117 = .ok (.ifCond .eq 29, 3) := by decide +kernel
theorem d_Mo_schedule_120 : decode b_Mo_schedule 120 = .ok (.iload 5, 2) := by decide +kernel
theorem d_Mo_schedule_122 : decode b_Mo_schedule 122 = .ok (.ifCond .lt 20, 3) := by decide +kernel
theorem d_Mo_schedule_125 : decode b_Mo_schedule 125 = .ok (.aload_n 0, 1) := by decide +kernel
theorem d_Mo_schedule_126 : decode b_Mo_schedule 126 = .ok (.getfield 50, 3) := by decide +kernel
theorem d_Mo_schedule_129 : decode b_Mo_schedule 129 = .ok (.iload 6, 2) := by decide +kernel
theorem d_Mo_schedule_131 : decode b_Mo_schedule 131 = .ok (.iaload, 1) := by decide +kernel
theorem d_Mo_schedule_132 : decode b_Mo_schedule 132 = .ok (.aload_n 0, 1) := by decide +kernel
theorem d_Mo_schedule_133 : decode b_Mo_schedule 133 = .ok (.getfield 50, 3) := by decide +kernel
theorem d_Mo_schedule_136 : decode b_Mo_schedule 136 = .ok (.iload 5, 2) := by decide +kernel
theorem d_Mo_schedule_138 : decode b_Mo_schedule 138 = .ok (.iaload, 1) := by decide +kernel
theorem d_Mo_schedule_139 : decode b_Mo_schedule 139 = .ok (.if_icmp .le 7, 3) := by decide +kernel
theorem d_Mo_schedule_142 : decode b_Mo_schedule 142 = .ok (.iload 6, 2) := by decide +kernel
theorem d_Mo_schedule_144 : decode b_Mo_schedule 144 = .ok (.istore 5, 2) := by decide +kernel
theorem d_Mo_schedule_146 : decode b_Mo_schedule 146 = .ok (.iinc 6 1, 3) := by decide +kernel
theorem d_Mo_schedule_149 : decode b_Mo_schedule 149 = .ok (.goto (-45), 3) := by decide +kernel
theorem d_Mo_schedule_152 : decode b_Mo_schedule 152 = .ok (.aload_n 0, 1) := by decide +kernel
theorem d_Mo_schedule_153 : decode b_Mo_schedule 153 = .ok (.getfield 59, 3) := by decide +kernel
theorem d_Mo_schedule_156 : decode b_Mo_schedule 156 = .ok (.iload 5, 2) := by decide +kernel
theorem d_Mo_schedule_158 : decode b_Mo_schedule 158 = .ok (.iconst 1, 1) := by decide +kernel
theorem d_Mo_schedule_159 : decode b_Mo_schedule 159 = .ok (.bastore, 1) := by decide +kernel
theorem d_Mo_schedule_160 : decode b_Mo_schedule 160 = .ok (.aload_n 0, 1) := by decide +kernel
theorem d_Mo_schedule_161 : decode b_Mo_schedule 161 = .ok (.getfield 53, 3) := by decide +kernel
theorem d_Mo_schedule_164 : decode b_Mo_schedule 164 = .ok (.iload 4, 2) := by decide +kernel
theorem d_Mo_schedule_166 : decode b_Mo_schedule 166 = .ok (.iload 5, 2) := by decide +kernel
theorem d_Mo_schedule_168 : decode b_Mo_schedule 168 = .ok (.iastore, 1) := by decide +kernel
theorem d_Mo_schedule_169 : decode b_Mo_schedule 169 = .ok (.iload 5, 2) := by decide +kernel
theorem d_Mo_schedule_171 : decode b_Mo_schedule 171 = .ok (.iload 4, 2) := by decide +kernel
theorem d_Mo_schedule_173 : decode b_Mo_schedule 173 = .ok (.if_icmp .eq 6, 3) := by decide +kernel
theorem d_Mo_schedule_176 : decode b_Mo_schedule 176 = .ok (.iinc 1 1, 3) := by decide +kernel
theorem d_Mo_schedule_179 : decode b_Mo_schedule 179 = .ok (.iinc 4 1, 3) := by decide +kernel
theorem d_Mo_schedule_182 : decode b_Mo_schedule 182 = .ok (.goto (-90), 3) := by decide +kernel
theorem d_Mo_schedule_185 : decode b_Mo_schedule 185 = .ok (.iload_n 3, 1) := by decide +kernel
theorem d_Mo_schedule_186 : decode b_Mo_schedule 186 = .ok (.iload_n 2, 1) := by decide +kernel
theorem d_Mo_schedule_187 : decode b_Mo_schedule 187 = .ok (.if_icmp .le 7, 3) := by decide +kernel
theorem d_Mo_schedule_190 : decode b_Mo_schedule 190 = .ok (.iload_n 3, 1) := by decide +kernel
theorem d_Mo_schedule_191 : decode b_Mo_schedule 191 = .ok (.goto 6, 3) := by decide +kernel
theorem d_Mo_schedule_194 : decode b_Mo_schedule 194 = .ok (.iload_n 2, 1) := by decide +kernel
theorem d_Mo_schedule_195 : decode b_Mo_schedule 195 = .ok (.iconst 1, 1) := by decide +kernel
theorem d_Mo_schedule_196 : decode b_Mo_schedule 196 = .ok (.iadd, 1) := by decide +kernel
theorem d_Mo_schedule_197 : decode b_Mo_schedule 197 = .ok (.istore_n 2, 1) := by decide +kernel
theorem d_Mo_schedule_198 : decode b_Mo_schedule 198 = .ok (.goto (-168), 3) := by decide +kernel
theorem d_Mo_schedule_201 : decode b_Mo_schedule 201 = .ok (.iconst 0, 1) := by decide +kernel
theorem d_Mo_schedule_202 : decode b_Mo_schedule 202 = .ok (.istore_n 3, 1) := by decide +kernel
theorem d_Mo_schedule_203 : decode b_Mo_schedule 203 = .ok (.iload_n 3, 1) := by decide +kernel
theorem d_Mo_schedule_204 : decode b_Mo_schedule 204 = .ok (.bipush 24, 2) := by decide +kernel
theorem d_Mo_schedule_206 : decode b_Mo_schedule 206 = .ok (.if_icmp .ge 20, 3) := by decide +kernel
theorem d_Mo_schedule_209 : decode b_Mo_schedule 209 = .ok (.aload_n 0, 1) := by decide +kernel
theorem d_Mo_schedule_210 : decode b_Mo_schedule 210 = .ok (.iload_n 3, 1) := by decide +kernel
theorem d_Mo_schedule_211 : decode b_Mo_schedule 211 = .ok (.aload_n 0, 1) := by decide +kernel
theorem d_Mo_schedule_212 : decode b_Mo_schedule 212 = .ok (.getfield 53, 3) := by decide +kernel
theorem d_Mo_schedule_215 : decode b_Mo_schedule 215 = .ok (.iload_n 3, 1) := by decide +kernel
theorem d_Mo_schedule_216 : decode b_Mo_schedule 216 = .ok (.iaload, 1) := by decide +kernel
theorem d_Mo_schedule_217 : decode b_Mo_schedule 217 = .ok (.invokevirtual 184, 3) := by decide +kernel
theorem d_Mo_schedule_220 : decode b_Mo_schedule 220 = .ok (.iinc 3 1, 3) := by decide +kernel
theorem d_Mo_schedule_223 : decode b_Mo_schedule 223 = .ok (.goto (-20), 3) := by decide +kernel
theorem d_Mo_schedule_226 : decode b_Mo_schedule 226 = .ok (.iconst 0, 1) := by decide +kernel
theorem d_Mo_schedule_227 : decode b_Mo_schedule 227 = .ok (.istore_n 3, 1) := by decide +kernel
theorem d_Mo_schedule_228 : decode b_Mo_schedule 228 = .ok (.iload_n 3, 1) := by decide +kernel
theorem d_Mo_schedule_229 : decode b_Mo_schedule 229 = .ok (.bipush 24, 2) := by decide +kernel
theorem d_Mo_schedule_231 : decode b_Mo_schedule 231 = .ok (.if_icmp .ge 87, 3) := by decide +kernel
theorem d_Mo_schedule_234 : decode b_Mo_schedule 234 = .ok (.aload_n 0, 1) := by decide +kernel
theorem d_Mo_schedule_235 : decode b_Mo_schedule 235 = .ok (.getfield 7, 3) := by decide +kernel
theorem d_Mo_schedule_238 : decode b_Mo_schedule 238 = .ok (.iload_n 3, 1) := by decide +kernel
theorem d_Mo_schedule_239 : decode b_Mo_schedule 239 = .ok (.aload_n 0, 1) := by decide +kernel
theorem d_Mo_schedule_240 : decode b_Mo_schedule 240 = .ok (.getfield 56, 3) := by decide +kernel
theorem d_Mo_schedule_243 : decode b_Mo_schedule 243 = .ok (.iload_n 3, 1) := by decide +kernel
theorem d_Mo_schedule_244 : decode b_Mo_schedule 244 = .ok (.iconst 5, 1) := by decide +kernel
theorem d_Mo_schedule_245 : decode b_Mo_schedule 245 = .ok (.imul, 1) := by decide +kernel
theorem d_Mo_schedule_246 : decode b_Mo_schedule 246 = .ok (.iaload, 1) := by decide +kernel
theorem d_Mo_schedule_247 : decode b_Mo_schedule 247 = .ok (.iastore, 1) := by decide +kernel
theorem d_Mo_schedule_248 : decode b_Mo_schedule 248 = .ok (.aload_n 0, 1) := by decide +kernel
theorem d_Mo_schedule_249 : decode b_Mo_schedule 249 = .ok (.getfield 13, 3) := by decide +kernel
theorem d_Mo_schedule_252 : decode b_Mo_schedule 252 = .ok (.iload_n 3, 1) := by decide +kernel
theorem d_Mo_schedule_253 : decode b_Mo_schedule 253 = .ok (.aload_n 0, 1) := by decide +kernel
theorem d_Mo_schedule_254 : decode b_Mo_schedule 254 = .ok (.getfield 56, 3) := by decide +kernel
theorem d_Mo_schedule_257 : decode b_Mo_schedule 257 = .ok (.iload_n 3, 1) := by decide +kernel
theorem d_Mo_schedule_258 : decode b_Mo_schedule 258 = .ok (.iconst 5, 1) := by decide +kernel
theorem d_Mo_schedule_259 : decode b_Mo_schedule 259 = .ok (.imul, 1) := by decide +kernel
theorem d_Mo_schedule_260 : decode b_Mo_schedule 260 = .ok (.iconst 1, 1) := by decide +kernel
theorem d_Mo_schedule_261 : decode b_Mo_schedule 261 = .ok (.iadd, 1) := by decide +kernel
theorem d_Mo_schedule_262 : decode b_Mo_schedule 262 = .ok (.iaload, 1) := by decide +kernel
theorem d_Mo_schedule_263 : decode b_Mo_schedule 263 = .ok (.iastore, 1) := by decide +kernel
theorem d_Mo_schedule_264 : decode b_Mo_schedule 264 = .ok (.aload_n 0, 1) := by decide +kernel
theorem d_Mo_schedule_265 : decode b_Mo_schedule 265 = .ok (.getfield 16, 3) := by decide +kernel
theorem d_Mo_schedule_268 : decode b_Mo_schedule 268 = .ok (.iload_n 3, 1) := by decide +kernel
theorem d_Mo_schedule_269 : decode b_Mo_schedule 269 = .ok (.aload_n 0, 1) := by decide +kernel
theorem d_Mo_schedule_270 : decode b_Mo_schedule 270 = .ok (.getfield 56, 3) := by decide +kernel
theorem d_Mo_schedule_273 : decode b_Mo_schedule 273 = .ok (.iload_n 3, 1) := by decide +kernel
theorem d_Mo_schedule_274 : decode b_Mo_schedule 274 = .ok (.iconst 5, 1) := by decide +kernel
theorem d_Mo_schedule_275 : decode b_Mo_schedule 275 = .ok (.imul, 1) := by decide +kernel
theorem d_Mo_schedule_276 : decode b_Mo_schedule 276 = .ok (.iconst 2, 1) := by decide +kernel
theorem d_Mo_schedule_277 : decode b_Mo_schedule 277 = .ok (.iadd, 1) := by decide +kernel
theorem d_Mo_schedule_278 : decode b_Mo_schedule 278 = .ok (.iaload, 1) := by decide +kernel
theorem d_Mo_schedule_279 : decode b_Mo_schedule 279 = .ok (.iastore, 1) := by decide +kernel
theorem d_Mo_schedule_280 : decode b_Mo_schedule 280 = .ok (.aload_n 0, 1) := by decide +kernel
theorem d_Mo_schedule_281 : decode b_Mo_schedule 281 = .ok (.getfield 19, 3) := by decide +kernel
theorem d_Mo_schedule_284 : decode b_Mo_schedule 284 = .ok (.iload_n 3, 1) := by decide +kernel
theorem d_Mo_schedule_285 : decode b_Mo_schedule 285 = .ok (.aload_n 0, 1) := by decide +kernel
theorem d_Mo_schedule_286 : decode b_Mo_schedule 286 = .ok (.getfield 56, 3) := by decide +kernel
theorem d_Mo_schedule_289 : decode b_Mo_schedule 289 = .ok (.iload_n 3, 1) := by decide +kernel
theorem d_Mo_schedule_290 : decode b_Mo_schedule 290 = .ok (.iconst 5, 1) := by decide +kernel
theorem d_Mo_schedule_291 : decode b_Mo_schedule 291 = .ok (.imul, 1) := by decide +kernel
theorem d_Mo_schedule_292 : decode b_Mo_schedule 292 = .ok (.iconst 3, 1) := by decide +kernel
theorem d_Mo_schedule_293 : decode b_Mo_schedule 293 = .ok (.iadd, 1) := by decide +kernel
theorem d_Mo_schedule_294 : decode b_Mo_schedule 294 = .ok (.iaload, 1) := by decide +kernel
theorem d_Mo_schedule_295 : decode b_Mo_schedule 295 = .ok (.iastore, 1) := by decide +kernel
theorem d_Mo_schedule_296 : decode b_Mo_schedule 296 = .ok (.aload_n 0, 1) := by decide +kernel
theorem d_Mo_schedule_297 : decode b_Mo_schedule 297 = .ok (.getfield 22, 3) := by decide +kernel
theorem d_Mo_schedule_300 : decode b_Mo_schedule 300 = .ok (.iload_n 3, 1) := by decide +kernel
theorem d_Mo_schedule_301 : decode b_Mo_schedule 301 = .ok (.aload_n 0, 1) := by decide +kernel
theorem d_Mo_schedule_302 : decode b_Mo_schedule 302 = .ok (.getfield 56, 3) := by decide +kernel
theorem d_Mo_schedule_305 : decode b_Mo_schedule 305 = .ok (.iload_n 3, 1) := by decide +kernel
theorem d_Mo_schedule_306 : decode b_Mo_schedule 306 = .ok (.iconst 5, 1) := by decide +kernel
theorem d_Mo_schedule_307 : decode b_Mo_schedule 307 = .ok (.imul, 1) := by decide +kernel
theorem d_Mo_schedule_308 : decode b_Mo_schedule 308 = .ok (.iconst 4, 1) := by decide +kernel
theorem d_Mo_schedule_309 : decode b_Mo_schedule 309 = .ok (.iadd, 1) := by decide +kernel
theorem d_Mo_schedule_310 : decode b_Mo_schedule 310 = .ok (.iaload, 1) := by decide +kernel
theorem d_Mo_schedule_311 : decode b_Mo_schedule 311 = .ok (.iastore, 1) := by decide +kernel
theorem d_Mo_schedule_312 : decode b_Mo_schedule 312 = .ok (.iinc 3 1, 3) := by decide +kernel
theorem d_Mo_schedule_315 : decode b_Mo_schedule 315 = .ok (.goto (-87), 3) := by decide +kernel
theorem d_Mo_schedule_318 : decode b_Mo_schedule 318 = .ok (.iload_n 1, 1) := by decide +kernel
theorem d_Mo_schedule_319 : decode b_Mo_schedule 319 = .ok (.ireturn, 1) := by decide +kernel
theorem d_Mo_whole_0 : decode b_Mo_whole 0 = .ok (.aload_n 0, 1) := by decide +kernel
theorem d_Mo_whole_1 : decode b_Mo_whole 1 = .ok (.iload_n 1, 1) := by decide +kernel
theorem d_Mo_whole_2 : decode b_Mo_whole 2 = .ok (.iconst 0, 1) := by decide +kernel
theorem d_Mo_whole_3 : decode b_Mo_whole 3 = .ok (.bipush 7, 2) := by decide +kernel
theorem d_Mo_whole_5 : decode b_Mo_whole 5 = .ok (.invokestatic 101, 3) := by decide +kernel
theorem d_Mo_whole_8 : decode b_Mo_whole 8 = .ok (.invokevirtual 105, 3) := by decide +kernel
theorem d_Mo_whole_11 : decode b_Mo_whole 11 = .ok (.ifCond .eq 5, 3) := by decide +kernel
theorem d_Mo_whole_14 : decode b_Mo_whole 14 = .ok (.iconst 0, 1) := by decide +kernel
theorem d_Mo_whole_15 : decode b_Mo_whole 15 = .ok (.ireturn, 1) := by decide +kernel
theorem d_Mo_whole_16 : decode b_Mo_whole 16 = .ok (.aload_n 0, 1) := by decide +kernel
theorem d_Mo_whole_17 : decode b_Mo_whole 17 = .ok (.getfield 25, 3) := by decide +kernel
theorem d_Mo_whole_20 : decode b_Mo_whole 20 = .ok (.iload_n 1, 1) := by decide +kernel
theorem d_Mo_whole_21 : decode b_Mo_whole 21 = .ok (.iaload, 1) := by decide +kernel
theorem d_Mo_whole_22 : decode b_Mo_whole 22 = .ok (.ireturn, 1) := by decide +kernel
theorem d_Mo_fraction_0 : decode b_Mo_fraction 0 = .ok (.aload_n 0, 1) := by decide +kernel
theorem d_Mo_fraction_1 : decode b_Mo_fraction 1 = .ok (.iload_n 1, 1) := by decide +kernel
theorem d_Mo_fraction_2 : decode b_Mo_fraction 2 = .ok (.iconst 0, 1) := by decide +kernel
theorem d_Mo_fraction_3 : decode b_Mo_fraction 3 = .ok (.iconst 3, 1) := by decide +kernel
theorem d_Mo_fraction_4 : decode b_Mo_fraction 4 = .ok (.invokestatic 101, 3) := by decide +kernel
theorem d_Mo_fraction_7 : decode b_Mo_fraction 7 = .ok (.invokevirtual 105, 3) := by decide +kernel
theorem d_Mo_fraction_10 : decode b_Mo_fraction 10 = .ok (.ifCond .eq 5, 3) := by decide +kernel
theorem d_Mo_fraction_13 : decode b_Mo_fraction 13 = .ok (.dconst 0, 1) := by decide +kernel
theorem d_Mo_fraction_14 : decode b_Mo_fraction 14 = .ok (.dreturn, 1) := by decide +kernel
theorem d_Mo_fraction_15 : decode b_Mo_fraction 15 = .ok (.aload_n 0, 1) := by decide +kernel
theorem d_Mo_fraction_16 : decode b_Mo_fraction 16 = .ok (.getfield 43, 3) := by decide +kernel
theorem d_Mo_fraction_19 : decode b_Mo_fraction 19 = .ok (.iload_n 1, 1) := by decide +kernel
theorem d_Mo_fraction_20 : decode b_Mo_fraction 20 = .ok (.daload, 1) := by decide +kernel
theorem d_Mo_fraction_21 : decode b_Mo_fraction 21 = .ok (.dreturn, 1) := by decide +kernel
theorem d_Mo_memory_0 : decode b_Mo_memory 0 = .ok (.aload_n 0, 1) := by decide +kernel
theorem d_Mo_memory_1 : decode b_Mo_memory 1 = .ok (.iload_n 1, 1) := by decide +kernel
theorem d_Mo_memory_2 : decode b_Mo_memory 2 = .ok (.iconst 0, 1) := by decide +kernel
theorem d_Mo_memory_3 : decode b_Mo_memory 3 = .ok (.bipush 47, 2) := by decide +kernel
theorem d_Mo_memory_5 : decode b_Mo_memory 5 = .ok (.invokestatic 101, 3) := by decide +kernel
theorem d_Mo_memory_8 : decode b_Mo_memory 8 = .ok (.invokevirtual 105, 3) := by decide +kernel
theorem d_Mo_memory_11 : decode b_Mo_memory 11 = .ok (.ifCond .eq 5, 3) := by decide +kernel
theorem d_Mo_memory_14 : decode b_Mo_memory 14 = .ok (.dconst 0, 1) := by decide +kernel
theorem d_Mo_memory_15 : decode b_Mo_memory 15 = .ok (.dreturn, 1) := by decide +kernel
theorem d_Mo_memory_16 : decode b_Mo_memory 16 = .ok (.aload_n 0, 1) := by decide +kernel
theorem d_Mo_memory_17 : decode b_Mo_memory 17 = .ok (.getfield 47, 3) := by decide +kernel
theorem d_Mo_memory_20 : decode b_Mo_memory 20 = .ok (.iload_n 1, 1) := by decide +kernel
theorem d_Mo_memory_21 : decode b_Mo_memory 21 = .ok (.daload, 1) := by decide +kernel
theorem d_Mo_memory_22 : decode b_Mo_memory 22 = .ok (.dreturn, 1) := by decide +kernel
theorem d_Mo_told_0 : decode b_Mo_told 0 = .ok (.aload_n 0, 1) := by decide +kernel
theorem d_Mo_told_1 : decode b_Mo_told 1 = .ok (.iload_n 1, 1) := by decide +kernel
theorem d_Mo_told_2 : decode b_Mo_told 2 = .ok (.iconst 0, 1) := by decide +kernel
theorem d_Mo_told_3 : decode b_Mo_told 3 = .ok (.bipush 23, 2) := by decide +kernel
theorem d_Mo_told_5 : decode b_Mo_told 5 = .ok (.invokestatic 101, 3) := by decide +kernel
theorem d_Mo_told_8 : decode b_Mo_told 8 = .ok (.ifCond .eq 16, 3) := by decide +kernel
theorem d_Mo_told_11 : decode b_Mo_told 11 = .ok (.iload_n 2, 1) := by decide +kernel
theorem d_Mo_told_12 : decode b_Mo_told 12 = .ok (.iconst 0, 1) := by decide +kernel
theorem d_Mo_told_13 : decode b_Mo_told 13 = .ok (.iconst 4, 1) := by decide +kernel
theorem d_Mo_told_14 : decode b_Mo_told 14 = .ok (.invokestatic 101, 3) := by decide +kernel
theorem d_Mo_told_17 : decode b_Mo_told 17 = .ok (.ifCond .eq 7, 3) := by decide +kernel
theorem d_Mo_told_20 : decode b_Mo_told 20 = .ok (.iconst 1, 1) := by decide +kernel
theorem d_Mo_told_21 : decode b_Mo_told 21 = .ok (.goto 4, 3) := by decide +kernel
theorem d_Mo_told_24 : decode b_Mo_told 24 = .ok (.iconst 0, 1) := by decide +kernel
theorem d_Mo_told_25 : decode b_Mo_told 25 = .ok (.invokevirtual 105, 3) := by decide +kernel
theorem d_Mo_told_28 : decode b_Mo_told 28 = .ok (.ifCond .eq 5, 3) := by decide +kernel
theorem d_Mo_told_31 : decode b_Mo_told 31 = .ok (.iconst 0, 1) := by decide +kernel
theorem d_Mo_told_32 : decode b_Mo_told 32 = .ok (.ireturn, 1) := by decide +kernel
theorem d_Mo_told_33 : decode b_Mo_told 33 = .ok (.iload_n 2, 1) := by decide +kernel
theorem d_Mo_told_34 : decode b_Mo_told 34 = .ok (.ifCond .ne 12, 3) := by decide +kernel
theorem d_Mo_told_37 : decode b_Mo_told 37 = .ok (.aload_n 0, 1) := by decide +kernel
theorem d_Mo_told_38 : decode b_Mo_told 38 = .ok (.getfield 7, 3) := by decide +kernel
theorem d_Mo_told_41 : decode b_Mo_told 41 = .ok (.iload_n 1, 1) := by decide +kernel
theorem d_Mo_told_42 : decode b_Mo_told 42 = .ok (.iaload, 1) := by decide +kernel
theorem d_Mo_told_43 : decode b_Mo_told 43 = .ok (.goto 51, 3) := by decide +kernel
theorem d_Mo_told_46 : decode b_Mo_told 46 = .ok (.iload_n 2, 1) := by decide +kernel
theorem d_Mo_told_47 : decode b_Mo_told 47 = .ok (.iconst 1, 1) := by decide +kernel
theorem d_Mo_told_48 : decode b_Mo_told 48 = .ok (.if_icmp .ne 12, 3) := by decide +kernel
theorem d_Mo_told_51 : decode b_Mo_told 51 = .ok (.aload_n 0, 1) := by decide +kernel
theorem d_Mo_told_52 : decode b_Mo_told 52 = .ok (.getfield 13, 3) := by decide +kernel
theorem d_Mo_told_55 : decode b_Mo_told 55 = .ok (.iload_n 1, 1) := by decide +kernel
theorem d_Mo_told_56 : decode b_Mo_told 56 = .ok (.iaload, 1) := by decide +kernel
theorem d_Mo_told_57 : decode b_Mo_told 57 = .ok (.goto 37, 3) := by decide +kernel
theorem d_Mo_told_60 : decode b_Mo_told 60 = .ok (.iload_n 2, 1) := by decide +kernel
theorem d_Mo_told_61 : decode b_Mo_told 61 = .ok (.iconst 2, 1) := by decide +kernel
theorem d_Mo_told_62 : decode b_Mo_told 62 = .ok (.if_icmp .ne 12, 3) := by decide +kernel
theorem d_Mo_told_65 : decode b_Mo_told 65 = .ok (.aload_n 0, 1) := by decide +kernel
theorem d_Mo_told_66 : decode b_Mo_told 66 = .ok (.getfield 16, 3) := by decide +kernel
theorem d_Mo_told_69 : decode b_Mo_told 69 = .ok (.iload_n 1, 1) := by decide +kernel
theorem d_Mo_told_70 : decode b_Mo_told 70 = .ok (.iaload, 1) := by decide +kernel
theorem d_Mo_told_71 : decode b_Mo_told 71 = .ok (.goto 23, 3) := by decide +kernel
theorem d_Mo_told_74 : decode b_Mo_told 74 = .ok (.iload_n 2, 1) := by decide +kernel
theorem d_Mo_told_75 : decode b_Mo_told 75 = .ok (.iconst 3, 1) := by decide +kernel
theorem d_Mo_told_76 : decode b_Mo_told 76 = .ok (.if_icmp .ne 12, 3) := by decide +kernel
theorem d_Mo_told_79 : decode b_Mo_told 79 = .ok (.aload_n 0, 1) := by decide +kernel
theorem d_Mo_told_80 : decode b_Mo_told 80 = .ok (.getfield 19, 3) := by decide +kernel
theorem d_Mo_told_83 : decode b_Mo_told 83 = .ok (.iload_n 1, 1) := by decide +kernel
theorem d_Mo_told_84 : decode b_Mo_told 84 = .ok (.iaload, 1) := by decide +kernel
theorem d_Mo_told_85 : decode b_Mo_told 85 = .ok (.goto 9, 3) := by decide +kernel
theorem d_Mo_told_88 : decode b_Mo_told 88 = .ok (.aload_n 0, 1) := by decide +kernel
theorem d_Mo_told_89 : decode b_Mo_told 89 = .ok (.getfield 22, 3) := by decide +kernel
theorem d_Mo_told_92 : decode b_Mo_told 92 = .ok (.iload_n 1, 1) := by decide +kernel
theorem d_Mo_told_93 : decode b_Mo_told 93 = .ok (.iaload, 1) := by decide +kernel
theorem d_Mo_told_94 : decode b_Mo_told 94 = .ok (.ireturn, 1) := by decide +kernel
theorem d_Mo_count_0 : decode b_Mo_count 0 = .ok (.aload_n 0, 1) := by decide +kernel
theorem d_Mo_count_1 : decode b_Mo_count 1 = .ok (.iconst 0, 1) := by decide +kernel
theorem d_Mo_count_2 : decode b_Mo_count 2 = .ok (.putfield 74, 3) := by decide +kernel
theorem d_Mo_count_5 : decode b_Mo_count 5 = .ok (.iload_n 1, 1) := by decide +kernel
theorem d_Mo_count_6 : decode b_Mo_count 6 = .ok (.bipush 10, 2) := by decide +kernel
theorem d_Mo_count_8 : decode b_Mo_count 8 = .ok (.bipush 17, 2) := by decide +kernel
theorem d_Mo_count_10 : decode b_Mo_count 10 = .ok (.invokestatic 101, 3) := by decide +kernel
theorem d_Mo_count_13 : decode b_Mo_count 13 = .ok (.ifCond .eq 13, 3) := by decide +kernel
theorem d_Mo_count_16 : decode b_Mo_count 16 = .ok (.aload_n 0, 1) := by decide +kernel
theorem d_Mo_count_17 : decode b_Mo_count 17 = .ok (.getfield 28, 3) := by decide +kernel
theorem d_Mo_count_20 : decode b_Mo_count 20 = .ok (.iload_n 1, 1) := by decide +kernel
theorem d_Mo_count_21 : decode b_Mo_count 21 = .ok (.bipush 10, 2) := by decide +kernel
theorem d_Mo_count_23 : decode b_Mo_count 23 = .ok (.isub, 1) := by decide +kernel
theorem d_Mo_count_24 : decode b_Mo_count 24 = .ok (.iaload, 1) := by decide +kernel
theorem d_Mo_count_25 : decode b_Mo_count 25 = .ok (.ireturn, 1) := by decide +kernel
theorem d_Mo_count_26 : decode b_Mo_count 26 = .ok (.iload_n 1, 1) := by decide +kernel
theorem d_Mo_count_27 : decode b_Mo_count 27 = .ok (.bipush 20, 2) := by decide +kernel
theorem d_Mo_count_29 : decode b_Mo_count 29 = .ok (.bipush 23, 2) := by decide +kernel
theorem d_Mo_count_31 : decode b_Mo_count 31 = .ok (.invokestatic 101, 3) := by decide +kernel
theorem d_Mo_count_34 : decode b_Mo_count 34 = .ok (.ifCond .eq 13, 3) := by decide +kernel
theorem d_Mo_count_37 : decode b_Mo_count 37 = .ok (.aload_n 0, 1) := by decide +kernel
theorem d_Mo_count_38 : decode b_Mo_count 38 = .ok (.getfield 28, 3) := by decide +kernel
theorem d_Mo_count_41 : decode b_Mo_count 41 = .ok (.iload_n 1, 1) := by decide +kernel
theorem d_Mo_count_42 : decode b_Mo_count 42 = .ok (.bipush 12, 2) := by decide +kernel
theorem d_Mo_count_44 : decode b_Mo_count 44 = .ok (.isub, 1) := by decide +kernel
theorem d_Mo_count_45 : decode b_Mo_count 45 = .ok (.iaload, 1) := by decide +kernel
theorem d_Mo_count_46 : decode b_Mo_count 46 = .ok (.ireturn, 1) := by decide +kernel
theorem d_Mo_count_47 : decode b_Mo_count 47 = .ok (.iload_n 1, 1) := by decide +kernel
theorem d_Mo_count_48 : decode b_Mo_count 48 = .ok (.tableswitch 87 0 6 #[44, 49, 62, 67, 72, 77, 82], 44) := by decide +kernel
theorem d_Mo_count_92 : decode b_Mo_count 92 = .ok (.aload_n 0, 1) := by decide +kernel
theorem d_Mo_count_93 : decode b_Mo_count 93 = .ok (.getfield 113, 3) := by decide +kernel
theorem d_Mo_count_96 : decode b_Mo_count 96 = .ok (.ireturn, 1) := by decide +kernel
theorem d_Mo_count_97 : decode b_Mo_count 97 = .ok (.aload_n 0, 1) := by decide +kernel
theorem d_Mo_count_98 : decode b_Mo_count 98 = .ok (.getfield 67, 3) := by decide +kernel
theorem d_Mo_count_101 : decode b_Mo_count 101 = .ok (.ifCond .eq 7, 3) := by decide +kernel
theorem d_Mo_count_104 : decode b_Mo_count 104 = .ok (.iconst 1, 1) := by decide +kernel
theorem d_Mo_count_105 : decode b_Mo_count 105 = .ok (.goto 4, 3) := by decide +kernel
theorem d_Mo_count_108 : decode b_Mo_count 108 = .ok (.iconst 0, 1) := by decide +kernel
theorem d_Mo_count_109 : decode b_Mo_count 109 = .ok (.ireturn, 1) := by decide +kernel
theorem d_Mo_count_110 : decode b_Mo_count 110 = .ok (.aload_n 0, 1) := by decide +kernel
theorem d_Mo_count_111 : decode b_Mo_count 111 = .ok (.getfield 95, 3) := by decide +kernel
theorem d_Mo_count_114 : decode b_Mo_count 114 = .ok (.ireturn, 1) := by decide +kernel
theorem d_Mo_count_115 : decode b_Mo_count 115 = .ok (.aload_n 0, 1) := by decide +kernel
theorem d_Mo_count_116 : decode b_Mo_count 116 = .ok (.getfield 63, 3) := by decide +kernel
theorem d_Mo_count_119 : decode b_Mo_count 119 = .ok (.ireturn, 1) := by decide +kernel
theorem d_Mo_count_120 : decode b_Mo_count 120 = .ok (.aload_n 0, 1) := by decide +kernel
theorem d_Mo_count_121 : decode b_Mo_count 121 = .ok (.getfield 92, 3) := by decide +kernel
theorem d_Mo_count_124 : decode b_Mo_count 124 = .ok (.ireturn, 1) := by decide +kernel
theorem d_Mo_count_125 : decode b_Mo_count 125 = .ok (.aload_n 0, 1) := by decide +kernel
theorem d_Mo_count_126 : decode b_Mo_count 126 = .ok (.getfield 89, 3) := by decide +kernel
theorem d_Mo_count_129 : decode b_Mo_count 129 = .ok (.ireturn, 1) := by decide +kernel
theorem d_Mo_count_130 : decode b_Mo_count 130 = .ok (.aload_n 0, 1) := by decide +kernel
theorem d_Mo_count_131 : decode b_Mo_count 131 = .ok (.getfield 86, 3) := by decide +kernel
theorem d_Mo_count_134 : decode b_Mo_count 134 = .ok (.ireturn, 1) := by decide +kernel
theorem d_Mo_count_135 : decode b_Mo_count 135 = .ok (.bipush (-2), 2) := by decide +kernel
theorem d_Mo_count_137 : decode b_Mo_count 137 = .ok (.ireturn, 1) := by decide +kernel
