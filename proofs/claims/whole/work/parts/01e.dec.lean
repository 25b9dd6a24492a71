/-! DECODE ROWS, by program -/
theorem d_La_code_0 : decode b_La_code 0 = .ok (.aload_n 0, 1) := by decide +kernel
theorem d_La_code_1 : decode b_La_code 1 = .ok (.iload_n 1, 1) := by decide +kernel
theorem d_La_code_2 : decode b_La_code 2 = .ok (.iload_n 2, 1) := by decide +kernel
theorem d_La_code_3 : decode b_La_code 3 = .ok (.iload_n 3, 1) := by decide +kernel
theorem d_La_code_4 : decode b_La_code 4 = .ok (.iload 4, 2) := by decide +kernel
theorem d_La_code_6 : decode b_La_code 6 = .ok (.iload 5, 2) := by decide +kernel
theorem d_La_code_8 : decode b_La_code 8 = .ok (.iload 6, 2) := by decide +kernel
theorem d_La_code_10 : decode b_La_code 10 = .ok (.invokevirtual 7, 3) := by decide +kernel
theorem d_La_code_13 : decode b_La_code 13 = .ok (.goto 7, 3) := by decide +kernel
theorem d_La_code_16 : decode b_La_code 16 = .ok (.astore 7, 2) := by decide +kernel
theorem d_La_code_18 : decode b_La_code 18 = .ok (.iconst 1, 1) := by decide +kernel
theorem d_La_code_19 : decode b_La_code 19 = .ok (.ireturn, 1) := by decide +kernel
theorem d_La_code_20 : decode b_La_code 20 = .ok (.iconst 0, 1) := by decide +kernel
theorem d_La_code_21 : decode b_La_code 21 = .ok (.ireturn, 1) := by decide +kernel
theorem d_La_cell2_0 : decode b_La_cell2 0 = .ok (.aload_n 0, 1) := by decide +kernel
theorem d_La_cell2_1 : decode b_La_cell2 1 = .ok (.iload_n 1, 1) := by decide +kernel
theorem d_La_cell2_2 : decode b_La_cell2 2 = .ok (.dload_n 2, 1) := by decide +kernel
theorem d_La_cell2_3 : decode b_La_cell2 3 = .ok (.invokevirtual 15, 3) := by decide +kernel
theorem d_La_cell2_6 : decode b_La_cell2 6 = .ok (.goto 7, 3) := by decide +kernel
theorem d_La_cell2_9 : decode b_La_cell2 9 = .ok (.astore 4, 2) := by decide +kernel
theorem d_La_cell2_11 : decode b_La_cell2 11 = .ok (.iconst 1, 1) := by decide +kernel
theorem d_La_cell2_12 : decode b_La_cell2 12 = .ok (.ireturn, 1) := by decide +kernel
theorem d_La_cell2_13 : decode b_La_cell2 13 = .ok (.iconst 0, 1) := by decide +kernel
theorem d_La_cell2_14 : decode b_La_cell2 14 = .ok (.ireturn, 1) := by decide +kernel
theorem d_La_start_0 : decode b_La_start 0 = .ok (.aload_n 0, 1) := by decide +kernel
theorem d_La_start_1 : decode b_La_start 1 = .ok (.iload_n 1, 1) := by decide +kernel
theorem d_La_start_2 : decode b_La_start 2 = .ok (.invokevirtual 19, 3) := by decide +kernel
theorem d_La_start_5 : decode b_La_start 5 = .ok (.goto 6, 3) := by decide +kernel
theorem d_La_start_8 : decode b_La_start 8 = .ok (.astore_n 2, 1) := by decide +kernel
theorem d_La_start_9 : decode b_La_start 9 = .ok (.iconst 1, 1) := by decide +kernel
theorem d_La_start_10 : decode b_La_start 10 = .ok (.ireturn, 1) := by decide +kernel
theorem d_La_start_11 : decode b_La_start 11 = .ok (.iconst 0, 1) := by decide +kernel
theorem d_La_start_12 : decode b_La_start 12 = .ok (.ireturn, 1) := by decide +kernel
theorem d_La_run_0 : decode b_La_run 0 = .ok (.aload_n 2, 1) := by decide +kernel
theorem d_La_run_1 : decode b_La_run 1 = .ok (.iconst 0, 1) := by decide +kernel
theorem d_La_run_2 : decode b_La_run 2 = .ok (.aload_n 0, 1) := by decide +kernel
theorem d_La_run_3 : decode b_La_run 3 = .ok (.iload_n 1, 1) := by decide +kernel
theorem d_La_run_4 : decode b_La_run 4 = .ok (.invokevirtual 23, 3) := by decide +kernel
theorem d_La_run_7 : decode b_La_run 7 = .ok (.i2l, 1) := by decide +kernel
theorem d_La_run_8 : decode b_La_run 8 = .ok (.lastore, 1) := by decide +kernel
theorem d_La_run_9 : decode b_La_run 9 = .ok (.goto 15, 3) := by decide +kernel
theorem d_La_run_12 : decode b_La_run 12 = .ok (.astore_n 3, 1) := by decide +kernel
theorem d_La_run_13 : decode b_La_run 13 = .ok (.iconst 1, 1) := by decide +kernel
theorem d_La_run_14 : decode b_La_run 14 = .ok (.ireturn, 1) := by decide +kernel
theorem d_La_run_15 : decode b_La_run 15 = .ok (.astore_n 3, 1) := by decide +kernel
theorem d_La_run_16 : decode b_La_run 16 = .ok (.iconst 2, 1) := by decide +kernel
theorem d_La_run_17 : decode b_La_run 17 = .ok (.ireturn, 1) := by decide +kernel
theorem d_La_run_18 : decode b_La_run 18 = .ok (.astore_n 3, 1) := by decide +kernel
theorem d_La_run_19 : decode b_La_run 19 = .ok (.iconst 3, 1) := by decide +kernel
theorem d_La_run_20 : decode b_La_run 20 = .ok (.ireturn, 1) := by decide +kernel
theorem d_La_run_21 : decode b_La_run 21 = .ok (.astore_n 3, 1) := by decide +kernel
theorem d_La_run_22 : decode b_La_run 22 = .ok (.iconst 4, 1) := by decide +kernel
theorem d_La_run_23 : decode b_La_run 23 = .ok (.ireturn, 1) := by decide +kernel
theorem d_La_run_24 : decode b_La_run 24 = .ok (.iconst 0, 1) := by decide +kernel
theorem d_La_run_25 : decode b_La_run 25 = .ok (.ireturn, 1) := by decide +kernel
theorem d_La_whole_0 : decode b_La_whole 0 = .ok (.aload_n 2, 1) := by decide +kernel
theorem d_La_whole_1 : decode b_La_whole 1 = .ok (.iconst 0, 1) := by decide +kernel
theorem d_La_whole_2 : decode b_La_whole 2 = .ok (.aload_n 0, 1) := by decide +kernel
theorem d_La_whole_3 : decode b_La_whole 3 = .ok (.iload_n 1, 1) := by decide +kernel
theorem d_La_whole_4 : decode b_La_whole 4 = .ok (.invokevirtual 33, 3) := by decide +kernel
theorem d_La_whole_7 : decode b_La_whole 7 = .ok (.i2l, 1) := by decide +kernel
theorem d_La_whole_8 : decode b_La_whole 8 = .ok (.lastore, 1) := by decide +kernel
theorem d_La_whole_9 : decode b_La_whole 9 = .ok (.goto 6, 3) := by decide +kernel
theorem d_La_whole_12 : decode b_La_whole 12 = .ok (.astore_n 3, 1) := by decide +kernel
theorem d_La_whole_13 : decode b_La_whole 13 = .ok (.iconst 1, 1) := by decide +kernel
theorem d_La_whole_14 : decode b_La_whole 14 = .ok (.ireturn, 1) := by decide +kernel
theorem d_La_whole_15 : decode b_La_whole 15 = .ok (.iconst 0, 1) := by decide +kernel
theorem d_La_whole_16 : decode b_La_whole 16 = .ok (.ireturn, 1) := by decide +kernel
theorem d_La_fraction_0 : decode b_La_fraction 0 = .ok (.aload_n 2, 1) := by decide +kernel
theorem d_La_fraction_1 : decode b_La_fraction 1 = .ok (.iconst 0, 1) := by decide +kernel
theorem d_La_fraction_2 : decode b_La_fraction 2 = .ok (.aload_n 0, 1) := by decide +kernel
theorem d_La_fraction_3 : decode b_La_fraction 3 = .ok (.iload_n 1, 1) := by decide +kernel
theorem d_La_fraction_4 : decode b_La_fraction 4 = .ok (.invokevirtual 36, 3) := by decide +kernel
theorem d_La_fraction_7 : decode b_La_fraction 7 = .ok (.dastore, 1) := by decide +kernel
theorem d_La_fraction_8 : decode b_La_fraction 8 = .ok (.goto 6, 3) := by decide +kernel
theorem d_La_fraction_11 : decode b_La_fraction 11 = .ok (.astore_n 3, 1) := by decide +kernel
theorem d_La_fraction_12 : decode b_La_fraction 12 = .ok (.iconst 1, 1) := by decide +kernel
theorem d_La_fraction_13 : decode b_La_fraction 13 = .ok (.ireturn, 1) := by decide +kernel
theorem d_La_fraction_14 : decode b_La_fraction 14 = .ok (.iconst 0, 1) := by decide +kernel
theorem d_La_fraction_15 : decode b_La_fraction 15 = .ok (.ireturn, 1) := by decide +kernel
theorem d_La_memory_0 : decode b_La_memory 0 = .ok (.aload_n 2, 1) := by decide +kernel
theorem d_La_memory_1 : decode b_La_memory 1 = .ok (.iconst 0, 1) := by decide +kernel
theorem d_La_memory_2 : decode b_La_memory 2 = .ok (.aload_n 0, 1) := by decide +kernel
theorem d_La_memory_3 : decode b_La_memory 3 = .ok (.iload_n 1, 1) := by decide +kernel
theorem d_La_memory_4 : decode b_La_memory 4 = .ok (.invokevirtual 40, 3) := by decide +kernel
theorem d_La_memory_7 : decode b_La_memory 7 = .ok (.dastore, 1) := by decide +kernel
theorem d_La_memory_8 : decode b_La_memory 8 = .ok (.goto 6, 3) := by decide +kernel
theorem d_La_memory_11 : decode b_La_memory 11 = .ok (.astore_n 3, 1) := by decide +kernel
theorem d_La_memory_12 : decode b_La_memory 12 = .ok (.iconst 1, 1) := by decide +kernel
theorem d_La_memory_13 : decode b_La_memory 13 = .ok (.ireturn, 1) := by decide +kernel
theorem d_La_memory_14 : decode b_La_memory 14 = .ok (.iconst 0, 1) := by decide +kernel
theorem d_La_memory_15 : decode b_La_memory 15 = .ok (.ireturn, 1) := by decide +kernel
theorem d_La_told_0 : decode b_La_told 0 = .ok (.aload_n 3, 1) := by decide +kernel
theorem d_La_told_1 : decode b_La_told 1 = .ok (.iconst 0, 1) := by decide +kernel
theorem d_La_told_2 : decode b_La_told 2 = .ok (.aload_n 0, 1) := by decide +kernel
theorem d_La_told_3 : decode b_La_told 3 = .ok (.iload_n 1, 1) := by decide +kernel
theorem d_La_told_4 : decode b_La_told 4 = .ok (.iload_n 2, 1) := by decide +kernel
theorem d_La_told_5 : decode b_La_told 5 = .ok (.invokevirtual 43, 3) := by decide +kernel
theorem d_La_told_8 : decode b_La_told 8 = .ok (.i2l, 1) := by decide +kernel
theorem d_La_told_9 : decode b_La_told 9 = .ok (.lastore, 1) := by decide +kernel
theorem d_La_told_10 : decode b_La_told 10 = .ok (.goto 7, 3) := by decide +kernel
theorem d_La_told_13 : decode b_La_told 13 = .ok (.astore 4, 2) := by decide +kernel
theorem d_La_told_15 : decode b_La_told 15 = .ok (.iconst 1, 1) := by decide +kernel
theorem d_La_told_16 : decode b_La_told 16 = .ok (.ireturn, 1) := by decide +kernel
theorem d_La_told_17 : decode b_La_told 17 = .ok (.iconst 0, 1) := by decide +kernel
theorem d_La_told_18 : decode b_La_told 18 = .ok (.ireturn, 1) := by decide +kernel
theorem d_La_law_0 : decode b_La_law 0 = .ok (.new 8, 3) := by decide +kernel
theorem d_La_law_3 : decode b_La_law 3 = .ok (.dup, 1) := by decide +kernel
theorem d_La_law_4 : decode b_La_law 4 = .ok (.invokespecial 47, 3) := by decide +kernel
theorem d_La_law_7 : decode b_La_law 7 = .ok (.astore_n 1, 1) := by decide +kernel
theorem d_La_law_8 : decode b_La_law 8 = .ok (.new 48, 3) := by decide +kernel
theorem d_La_law_11 : decode b_La_law 11 = .ok (.dup, 1) := by decide +kernel
theorem d_La_law_12 : decode b_La_law 12 = .ok (.invokespecial 50, 3) := by decide +kernel
theorem d_La_law_15 : decode b_La_law 15 = .ok (.astore_n 2, 1) := by decide +kernel
theorem d_La_law_16 : decode b_La_law 16 = .ok (.iconst 1, 1) := by decide +kernel
theorem d_La_law_17 : decode b_La_law 17 = .ok (.newarray .long, 2) := by decide +kernel
theorem d_La_law_19 : decode b_La_law 19 = .ok (.astore_n 3, 1) := by decide +kernel
theorem d_La_law_20 : decode b_La_law 20 = .ok (.iconst 1, 1) := by decide +kernel
theorem d_La_law_21 : decode b_La_law 21 = .ok (.newarray .double, 2) := by decide +kernel
theorem d_La_law_23 : decode b_La_law 23 = .ok (.astore 4, 2) := by decide +kernel
theorem d_La_law_25 : decode b_La_law 25 = .ok (.iconst 0, 1) := by decide +kernel
theorem d_La_law_26 : decode b_La_law 26 = .ok (.istore 5, 2) := by decide +kernel
theorem d_La_law_28 : decode b_La_law 28 = .ok (.iload 5, 2) := by decide +kernel
theorem d_La_law_30 : decode b_La_law 30 = .ok (.aload_n 0, 1) := by decide +kernel
theorem d_La_law_31 : decode b_La_law 31 = .ok (.arraylength, 1) := by decide +kernel
theorem d_La_law_32 : decode b_La_law 32 = .ok (.bipush 7, 2) := by decide +kernel
theorem d_La_law_34 : decode b_La_law 34 = .ok (.isub, 1) := by decide +kernel
theorem d_La_law_35 : decode b_La_law 35 = .ok (.if_icmp .gt 635, 3) := by decide +kernel
theorem d_La_law_38 : decode b_La_law 38 = .ok (.aload_n 0, 1) := by decide +kernel
theorem d_La_law_39 : decode b_La_law 39 = .ok (.iload 5, 2) := by decide +kernel
theorem d_La_law_41 : decode b_La_law 41 = .ok (.iaload, 1) := by decide +kernel
theorem d_La_law_42 : decode b_La_law 42 = .ok (.bipush 15, 2) := by decide +kernel
theorem d_La_law_44 : decode b_La_law 44 = .ok (.iand, 1) := by decide +kernel
theorem d_La_law_45 : decode b_La_law 45 = .ok (.tableswitch 619 0 9 #[55, 153, 211, 247, 303, 316, 372, 449, 526, 594], 55) := by decide +kernel
theorem d_La_law_100 : decode b_La_law 100 = .ok (.aload_n 1, 1) := by decide +kernel
theorem d_La_law_101 : decode b_La_law 101 = .ok (.aload_n 0, 1) := by decide +kernel
theorem d_La_law_102 : decode b_La_law 102 = .ok (.iload 5, 2) := by decide +kernel
theorem d_La_law_104 : decode b_La_law 104 = .ok (.iconst 1, 1) := by decide +kernel
theorem d_La_law_105 : decode b_La_law 105 = .ok (.iadd, 1) := by decide +kernel
theorem d_La_law_106 : decode b_La_law 106 = .ok (.iaload, 1) := by decide +kernel
theorem d_La_law_107 : decode b_La_law 107 = .ok (.aload_n 0, 1) := by decide +kernel
theorem d_La_law_108 : decode b_La_law 108 = .ok (.iload 5, 2) := by decide +kernel
theorem d_La_law_110 : decode b_La_law 110 = .ok (.iconst 2, 1) := by decide +kernel
theorem d_La_law_111 : decode b_La_law 111 = .ok (.iadd, 1) := by decide +kernel
theorem d_La_law_112 : decode b_La_law 112 = .ok (.iaload, 1) := by decide +kernel
theorem d_La_law_113 : decode b_La_law 113 = .ok (.aload_n 0, 1) := by decide +kernel
theorem d_La_law_114 : decode b_La_law 114 = .ok (.iload 5, 2) := by decide +kernel
theorem d_La_law_116 : decode b_La_law 116 = .ok (.iconst 3, 1) := by decide +kernel
theorem d_La_law_117 : decode b_La_law 117 = .ok (.iadd, 1) := by decide +kernel
theorem d_La_law_118 : decode b_La_law 118 = .ok (.iaload, 1) := by decide +kernel
theorem d_La_law_119 : decode b_La_law 119 = .ok (.aload_n 0, 1) := by decide +kernel
theorem d_La_law_120 : decode b_La_law 120 = .ok (.iload 5, 2) := by decide +kernel
theorem d_La_law_122 : decode b_La_law 122 = .ok (.iconst 4, 1) := by decide +kernel
theorem d_La_law_123 : decode b_La_law 123 = .ok (.iadd, 1) := by decide +kernel
theorem d_La_law_124 : decode b_La_law 124 = .ok (.iaload, 1) := by decide +kernel
theorem d_La_law_125 : decode b_La_law 125 = .ok (.aload_n 0, 1) := by decide +kernel
theorem d_La_law_126 : decode b_La_law 126 = .ok (.iload 5, 2) := by decide +kernel
theorem d_La_law_128 : decode b_La_law 128 = .ok (.iconst 5, 1) := by decide +kernel
theorem d_La_law_129 : decode b_La_law 129 = .ok (.iadd, 1) := by decide +kernel
theorem d_La_law_130 : decode b_La_law 130 = .ok (.iaload, 1) := by decide +kernel
theorem d_La_law_131 : decode b_La_law 131 = .ok (.aload_n 0, 1) := by decide +kernel
theorem d_La_law_132 : decode b_La_law 132 = .ok (.iload 5, 2) := by decide +kernel
theorem d_La_law_134 : decode b_La_law 134 = .ok (.bipush 6, 2) := by decide +kernel
theorem d_La_law_136 : decode b_La_law 136 = .ok (.iadd, 1) := by decide +kernel
theorem d_La_law_137 : decode b_La_law 137 = .ok (.iaload, 1) := by decide +kernel
theorem d_La_law_138 : decode b_La_law 138 = .ok (.invokestatic 51, 3) := by decide +kernel
theorem d_La_law_141 : decode b_La_law 141 = .ok (.istore 6, 2) := by decide +kernel
theorem d_La_law_143 : decode b_La_law 143 = .ok (.aload_n 2, 1) := by decide +kernel
theorem d_La_law_144 : decode b_La_law 144 = .ok (.aload_n 0, 1) := by decide +kernel
theorem d_La_law_145 : decode b_La_law 145 = .ok (.iload 5, 2) := by decide +kernel
theorem d_La_law_147 : decode b_La_law 147 = .ok (.iconst 1, 1) := by decide +kernel
theorem d_La_law_148 : decode b_La_law 148 = .ok (.iadd, 1) := by decide +kernel
theorem d_La_law_149 : decode b_La_law 149 = .ok (.iaload, 1) := by decide +kernel
theorem d_La_law_150 : decode b_La_law 150 = .ok (.aload_n 0, 1) := by decide +kernel
theorem d_La_law_151 : decode b_La_law 151 = .ok (.iload 5, 2) := by decide +kernel
theorem d_La_law_153 : decode b_La_law 153 = .ok (.iconst 2, 1) := by decide +kernel
theorem d_La_law_154 : decode b_La_law 154 = .ok (.iadd, 1) := by decide +kernel
theorem d_La_law_155 : decode b_La_law 155 = .ok (.iaload, 1) := by decide +kernel
theorem d_La_law_156 : decode b_La_law 156 = .ok (.aload_n 0, 1) := by decide +kernel
theorem d_La_law_157 : decode b_La_law 157 = .ok (.iload 5, 2) := by decide +kernel
theorem d_La_law_159 : decode b_La_law 159 = .ok (.iconst 3, 1) := by decide +kernel
theorem d_La_law_160 : decode b_La_law 160 = .ok (.iadd, 1) := by decide +kernel
theorem d_La_law_161 : decode b_La_law 161 = .ok (.iaload, 1) := by decide +kernel
theorem d_La_law_162 : decode b_La_law 162 = .ok (.aload_n 0, 1) := by decide +kernel
theorem d_La_law_163 : decode b_La_law 163 = .ok (.iload 5, 2) := by decide +kernel
theorem d_La_law_165 : decode b_La_law 165 = .ok (.iconst 4, 1) := by decide +kernel
theorem d_La_law_166 : decode b_La_law 166 = .ok (.iadd, 1) := by decide +kernel
theorem d_La_law_167 : decode b_La_law 167 = .ok (.iaload, 1) := by decide +kernel
theorem d_La_law_168 : decode b_La_law 168 = .ok (.aload_n 0, 1) := by decide +kernel
theorem d_La_law_169 : decode b_La_law 169 = .ok (.iload 5, 2) := by decide +kernel
theorem d_La_law_171 : decode b_La_law 171 = .ok (.iconst 5, 1) := by decide +kernel
theorem d_La_law_172 : decode b_La_law 172 = .ok (.iadd, 1) := by decide +kernel
theorem d_La_law_173 : decode b_La_law 173 = .ok (.iaload, 1) := by decide +kernel
theorem d_La_law_174 : decode b_La_law 174 = .ok (.aload_n 0, 1) := by decide +kernel
theorem d_La_law_175 : decode b_La_law 175 = .ok (.iload 5, 2) := by decide +kernel
theorem d_La_law_177 : decode b_La_law 177 = .ok (.bipush 6, 2) := by decide +kernel
theorem d_La_law_179 : decode b_La_law 179 = .ok (.iadd, 1) := by decide +kernel
theorem d_La_law_180 : decode b_La_law 180 = .ok (.iaload, 1) := by decide +kernel
theorem d_La_law_181 : decode b_La_law 181 = .ok (.invokevirtual 56, 3) := by decide +kernel
theorem d_La_law_184 : decode b_La_law 184 = .ok (.aload_n 2, 1) := by decide +kernel
theorem d_La_law_185 : decode b_La_law 185 = .ok (.invokevirtual 57, 3) := by decide +kernel
theorem d_La_law_188 : decode b_La_law 188 = .ok (.iload 6, 2) := by decide +kernel
theorem d_La_law_190 : decode b_La_law 190 = .ok (.if_icmp .eq 5, 3) := by decide +kernel
theorem d_La_law_193 : decode b_La_law 193 = .ok (.iconst 0, 1) := by decide +kernel
theorem d_La_law_194 : decode b_La_law 194 = .ok (.ireturn, 1) := by decide +kernel
theorem d_La_law_195 : decode b_La_law 195 = .ok (.goto 469, 3) := by decide +kernel
theorem d_La_law_198 : decode b_La_law 198 = .ok (.aload_n 1, 1) := by decide +kernel
theorem d_La_law_199 : decode b_La_law 199 = .ok (.aload_n 0, 1) := by decide +kernel
theorem d_La_law_200 : decode b_La_law 200 = .ok (.iload 5, 2) := by decide +kernel
theorem d_La_law_202 : decode b_La_law 202 = .ok (.iconst 1, 1) := by decide +kernel
theorem d_La_law_203 : decode b_La_law 203 = .ok (.iadd, 1) := by decide +kernel
theorem d_La_law_204 : decode b_La_law 204 = .ok (.iaload, 1) := by decide +kernel
theorem d_La_law_205 : decode b_La_law 205 = .ok (.aload_n 0, 1) := by decide +kernel
theorem d_La_law_206 : decode b_La_law 206 = .ok (.iload 5, 2) := by decide +kernel
theorem d_La_law_208 : decode b_La_law 208 = .ok (.iconst 2, 1) := by decide +kernel
theorem d_La_law_209 : decode b_La_law 209 = .ok (.iadd, 1) := by decide +kernel
theorem d_La_law_210 : decode b_La_law 210 = .ok (.iaload, 1) := by decide +kernel
theorem d_La_law_211 : decode b_La_law 211 = .ok (.i2d, 1) := by decide +kernel
theorem d_La_law_212 : decode b_La_law 212 = .ok (.ldc2_w 61, 3) := by decide +kernel
theorem d_La_law_215 : decode b_La_law 215 = .ok (.dmul, 1) := by decide +kernel
theorem d_La_law_216 : decode b_La_law 216 = .ok (.invokestatic 63, 3) := by decide +kernel
theorem d_La_law_219 : decode b_La_law 219 = .ok (.istore 6, 2) := by decide +kernel
theorem d_La_law_221 : decode b_La_law 221 = .ok (.aload_n 2, 1) := by decide +kernel
theorem d_La_law_222 : decode b_La_law 222 = .ok (.aload_n 0, 1) := by decide +kernel
theorem d_La_law_223 : decode b_La_law 223 = .ok (.iload 5, 2) := by decide +kernel
theorem d_La_law_225 : decode b_La_law 225 = .ok (.iconst 1, 1) := by decide +kernel
theorem d_La_law_226 : decode b_La_law 226 = .ok (.iadd, 1) := by decide +kernel
theorem d_La_law_227 : decode b_La_law 227 = .ok (.iaload, 1) := by decide +kernel
theorem d_La_law_228 : decode b_La_law 228 = .ok (.aload_n 0, 1) := by decide +kernel
theorem d_La_law_229 : decode b_La_law 229 = .ok (.iload 5, 2) := by decide +kernel
theorem d_La_law_231 : decode b_La_law 231 = .ok (.iconst 2, 1) := by decide +kernel
theorem d_La_law_232 : decode b_La_law 232 = .ok (.iadd, 1) := by decide +kernel
theorem d_La_law_233 : decode b_La_law 233 = .ok (.iaload, 1) := by decide +kernel
theorem d_La_law_234 : decode b_La_law 234 = .ok (.i2d, 1) := by decide +kernel
theorem d_La_law_235 : decode b_La_law 235 = .ok (.ldc2_w 61, 3) := by decide +kernel
theorem d_La_law_238 : decode b_La_law 238 = .ok (.dmul, 1) := by decide +kernel
theorem d_La_law_239 : decode b_La_law 239 = .ok (.invokevirtual 66, 3) := by decide +kernel
theorem d_La_law_242 : decode b_La_law 242 = .ok (.aload_n 2, 1) := by decide +kernel
theorem d_La_law_243 : decode b_La_law 243 = .ok (.invokevirtual 57, 3) := by decide +kernel
theorem d_La_law_246 : decode b_La_law 246 = .ok (.iload 6, 2) := by decide +kernel
theorem d_La_law_248 : decode b_La_law 248 = .ok (.if_icmp .eq 5, 3) := by decide +kernel
theorem d_La_law_251 : decode b_La_law 251 = .ok (.iconst 0, 1) := by decide +kernel
theorem d_La_law_252 : decode b_La_law 252 = .ok (.ireturn, 1) := by decide +kernel
theorem d_La_law_253 : decode b_La_law 253 = .ok (.goto 411, 3) := by decide +kernel
theorem d_La_law_256 : decode b_La_law 256 = .ok (.aload_n 1, 1) := by decide +kernel
theorem d_La_law_257 : decode b_La_law 257 = .ok (.aload_n 0, 1) := by decide +kernel
theorem d_La_law_258 : decode b_La_law 258 = .ok (.iload 5, 2) := by decide +kernel
theorem d_La_law_260 : decode b_La_law 260 = .ok (.iconst 1, 1) := by decide +kernel
theorem d_La_law_261 : decode b_La_law 261 = .ok (.iadd, 1) := by decide +kernel
theorem d_La_law_262 : decode b_La_law 262 = .ok (.iaload, 1) := by decide +kernel
theorem d_La_law_263 : decode b_La_law 263 = .ok (.invokestatic 67, 3) := by decide +kernel
theorem d_La_law_266 : decode b_La_law 266 = .ok (.istore 6, 2) := by decide +kernel
theorem d_La_law_268 : decode b_La_law 268 = .ok (.aload_n 2, 1) := by decide +kernel
theorem d_La_law_269 : decode b_La_law 269 = .ok (.aload_n 0, 1) := by decide +kernel
theorem d_La_law_270 : decode b_La_law 270 = .ok (.iload 5, 2) := by decide +kernel
theorem d_La_law_272 : decode b_La_law 272 = .ok (.iconst 1, 1) := by decide +kernel
theorem d_La_law_273 : decode b_La_law 273 = .ok (.iadd, 1) := by decide +kernel
theorem d_La_law_274 : decode b_La_law 274 = .ok (.iaload, 1) := by decide +kernel
theorem d_La_law_275 : decode b_La_law 275 = .ok (.invokevirtual 70, 3) := by decide +kernel
theorem d_La_law_278 : decode b_La_law 278 = .ok (.aload_n 2, 1) := by decide +kernel
theorem d_La_law_279 : decode b_La_law 279 = .ok (.invokevirtual 57, 3) := by decide +kernel
theorem d_La_law_282 : decode b_La_law 282 = .ok (.iload 6, 2) := by decide +kernel
theorem d_La_law_284 : decode b_La_law 284 = .ok (.if_icmp .eq 5, 3) := by decide +kernel
theorem d_La_law_287 : decode b_La_law 287 = .ok (.iconst 0, 1) := by decide +kernel
theorem d_La_law_288 : decode b_La_law 288 = .ok (.ireturn, 1) := by decide +kernel
theorem d_La_law_289 : decode b_La_law 289 = .ok (.goto 375, 3) := by decide +kernel
theorem d_La_law_292 : decode b_La_law 292 = .ok (.aload_n 1, 1) := by decide +kernel
theorem d_La_law_293 : decode b_La_law 293 = .ok (.aload_n 0, 1) := by decide +kernel
theorem d_La_law_294 : decode b_La_law 294 = .ok (.iload 5, 2) := by decide +kernel
theorem d_La_law_296 : decode b_La_law 296 = .ok (.iconst 1, 1) := by decide +kernel
theorem d_La_law_297 : decode b_La_law 297 = .ok (.iadd, 1) := by decide +kernel
theorem d_La_law_298 : decode b_La_law 298 = .ok (.iaload, 1) := by decide +kernel
theorem d_La_law_299 : decode b_La_law 299 = .ok (.aload_n 3, 1) := by decide +kernel
theorem d_La_law_300 : decode b_La_law 300 = .ok (.invokestatic 71, 3) := by decide +kernel
theorem d_La_law_303 : decode b_La_law 303 = .ok (.istore 6, 2) := by decide +kernel
theorem d_La_law_305 : decode b_La_law 305 = .ok (.aload_n 2, 1) := by decide +kernel
theorem d_La_law_306 : decode b_La_law 306 = .ok (.aload_n 0, 1) := by decide +kernel
theorem d_La_law_307 : decode b_La_law 307 = .ok (.iload 5, 2) := by decide +kernel
theorem d_La_law_309 : decode b_La_law 309 = .ok (.iconst 1, 1) := by decide +kernel
theorem d_La_law_310 : decode b_La_law 310 = .ok (.iadd, 1) := by decide +kernel
theorem d_La_law_311 : decode b_La_law 311 = .ok (.iaload, 1) := by decide +kernel
theorem d_La_law_312 : decode b_La_law 312 = .ok (.invokevirtual 74, 3) := by decide +kernel
theorem d_La_law_315 : decode b_La_law 315 = .ok (.istore 7, 2) := by decide +kernel
theorem d_La_law_317 : decode b_La_law 317 = .ok (.aload_n 2, 1) := by decide +kernel
theorem d_La_law_318 : decode b_La_law 318 = .ok (.invokevirtual 57, 3) := by decide +kernel
theorem d_La_law_321 : decode b_La_law 321 = .ok (.iload 6, 2) := by decide +kernel
theorem d_La_law_323 : decode b_La_law 323 = .ok (.if_icmp .eq 5, 3) := by decide +kernel
theorem d_La_law_326 : decode b_La_law 326 = .ok (.iconst 0, 1) := by decide +kernel
theorem d_La_law_327 : decode b_La_law 327 = .ok (.ireturn, 1) := by decide +kernel
theorem d_La_law_328 : decode b_La_law 328 = .ok (.iload 6, 2) := by decide +kernel
theorem d_La_law_330 : decode b_La_law 330 = .ok (.ifCond .ne 15, 3) := by decide +kernel
theorem d_La_law_333 : decode b_La_law 333 = .ok (.aload_n 3, 1) := by decide +kernel
theorem d_La_law_334 : decode b_La_law 334 = .ok (.iconst 0, 1) := by decide +kernel
theorem d_La_law_335 : decode b_La_law 335 = .ok (.laload, 1) := by decide +kernel
theorem d_La_law_336 : decode b_La_law 336 = .ok (.iload 7, 2) := by decide +kernel
theorem d_La_law_338 : decode b_La_law 338 = .ok (.i2l, 1) := by decide +kernel
theorem d_La_law_339 : decode b_La_law 339 = .ok (.lcmp, 1) := by decide +kernel
theorem d_La_law_340 : decode b_La_law 340 = .ok (.ifCond .eq 5, 3) := by decide +kernel
theorem d_La_law_343 : decode b_La_law 343 = .ok (.iconst 0, 1) := by decide +kernel
theorem d_La_law_344 : decode b_La_law 344 = .ok (.ireturn, 1) := by decide +kernel
theorem d_La_law_345 : decode b_La_law 345 = .ok (.goto 319, 3) := by decide +kernel
theorem d_La_law_348 : decode b_La_law 348 = .ok (.aload_n 1, 1) := by decide +kernel
theorem d_La_law_349 : decode b_La_law 349 = .ok (.invokevirtual 75, 3) := by decide +kernel
theorem d_La_law_352 : decode b_La_law 352 = .ok (.aload_n 2, 1) := by decide +kernel
theorem d_La_law_353 : decode b_La_law 353 = .ok (.invokevirtual 78, 3) := by decide +kernel
theorem d_La_law_356 : decode b_La_law 356 = .ok (.if_icmp .eq 308, 3) := by decide +kernel
theorem d_La_law_359 : decode b_La_law 359 = .ok (.iconst 0, 1) := by decide +kernel
theorem d_La_law_360 : decode b_La_law 360 = .ok (.ireturn, 1) := by decide +kernel
theorem d_La_law_361 : decode b_La_law 361 = .ok (.aload_n 1, 1) := by decide +kernel
theorem d_La_law_362 : decode b_La_law 362 = .ok (.aload_n 0, 1) := by decide +kernel
theorem d_La_law_363 : decode b_La_law 363 = .ok (.iload 5, 2) := by decide +kernel
theorem d_La_law_365 : decode b_La_law 365 = .ok (.iconst 1, 1) := by decide +kernel
theorem d_La_law_366 : decode b_La_law 366 = .ok (.iadd, 1) := by decide +kernel
theorem d_La_law_367 : decode b_La_law 367 = .ok (.iaload, 1) := by decide +kernel
theorem d_La_law_368 : decode b_La_law 368 = .ok (.aload_n 3, 1) := by decide +kernel
theorem d_La_law_369 : decode b_La_law 369 = .ok (.invokestatic 79, 3) := by decide +kernel
theorem d_La_law_372 : decode b_La_law 372 = .ok (.istore 6, 2) := by decide +kernel
theorem d_La_law_374 : decode b_La_law 374 = .ok (.aload_n 2, 1) := by decide +kernel
theorem d_La_law_375 : decode b_La_law 375 = .ok (.aload_n 0, 1) := by decide +kernel
theorem d_La_law_376 : decode b_La_law 376 = .ok (.iload 5, 2) := by decide +kernel
theorem d_La_law_378 : decode b_La_law 378 = .ok (.iconst 1, 1) := by decide +kernel
theorem d_La_law_379 : decode b_La_law 379 = .ok (.iadd, 1) := by decide +kernel
theorem d_La_law_380 : decode b_La_law 380 = .ok (.iaload, 1) := by decide +kernel
theorem d_La_law_381 : decode b_La_law 381 = .ok (.invokevirtual 81, 3) := by decide +kernel
theorem d_La_law_384 : decode b_La_law 384 = .ok (.istore 7, 2) := by decide +kernel
theorem d_La_law_386 : decode b_La_law 386 = .ok (.aload_n 2, 1) := by decide +kernel
theorem d_La_law_387 : decode b_La_law 387 = .ok (.invokevirtual 57, 3) := by decide +kernel
theorem d_La_law_390 : decode b_La_law 390 = .ok (.iload 6, 2) := by decide +kernel
theorem d_La_law_392 : decode b_La_law 392 = .ok (.if_icmp .eq 5, 3) := by decide +kernel
theorem d_La_law_395 : decode b_La_law 395 = .ok (.iconst 0, 1) := by decide +kernel
theorem d_La_law_396 : decode b_La_law 396 = .ok (.ireturn, 1) := by decide +kernel
theorem d_La_law_397 : decode b_La_law 397 = .ok (.iload 6, 2) := by decide +kernel
theorem d_La_law_399 : decode b_La_law 399 = .ok (.ifCond .ne 15, 3) := by decide +kernel
theorem d_La_law_402 : decode b_La_law 402 = .ok (.aload_n 3, 1) := by decide +kernel
theorem d_La_law_403 : decode b_La_law 403 = .ok (.iconst 0, 1) := by decide +kernel
theorem d_La_law_404 : decode b_La_law 404 = .ok (.laload, 1) := by decide +kernel
theorem d_La_law_405 : decode b_La_law 405 = .ok (.iload 7, 2) := by decide +kernel
theorem d_La_law_407 : decode b_La_law 407 = .ok (.i2l, 1) := by decide +kernel
theorem d_La_law_408 : decode b_La_law 408 = .ok (.lcmp, 1) := by decide +kernel
theorem d_La_law_409 : decode b_La_law 409 = .ok (.ifCond .eq 5, 3) := by decide +kernel
theorem d_La_law_412 : decode b_La_law 412 = .ok (.iconst 0, 1) := by decide +kernel
theorem d_La_law_413 : decode b_La_law 413 = .ok (.ireturn, 1) := by decide +kernel
theorem d_La_law_414 : decode b_La_law 414 = .ok (.goto 250, 3) := by decide +kernel
theorem d_La_law_417 : decode b_La_law 417 = .ok (.aload_n 1, 1) := by decide +kernel
theorem d_La_law_418 : decode b_La_law 418 = .ok (.aload_n 0, 1) := by decide +kernel
theorem d_La_law_419 : decode b_La_law 419 = .ok (.iload 5, 2) := by decide +kernel
theorem d_La_law_421 : decode b_La_law 421 = .ok (.iconst 1, 1) := by decide +kernel
theorem d_La_law_422 : decode b_La_law 422 = .ok (.iadd, 1) := by decide +kernel
theorem d_La_law_423 : decode b_La_law 423 = .ok (.iaload, 1) := by decide +kernel
theorem d_La_law_424 : decode b_La_law 424 = .ok (.aload 4, 2) := by decide +kernel
theorem d_La_law_426 : decode b_La_law 426 = .ok (.invokestatic 82, 3) := by decide +kernel
theorem d_La_law_429 : decode b_La_law 429 = .ok (.istore 6, 2) := by decide +kernel
theorem d_La_law_431 : decode b_La_law 431 = .ok (.aload_n 2, 1) := by decide +kernel
theorem d_La_law_432 : decode b_La_law 432 = .ok (.aload_n 0, 1) := by decide +kernel
theorem d_La_law_433 : decode b_La_law 433 = .ok (.iload 5, 2) := by decide +kernel
theorem d_La_law_435 : decode b_La_law 435 = .ok (.iconst 1, 1) := by decide +kernel
theorem d_La_law_436 : decode b_La_law 436 = .ok (.iadd, 1) := by decide +kernel
theorem d_La_law_437 : decode b_La_law 437 = .ok (.iaload, 1) := by decide +kernel
theorem d_La_law_438 : decode b_La_law 438 = .ok (.invokevirtual 85, 3) := by decide +kernel
theorem d_La_law_441 : decode b_La_law 441 = .ok (.dstore 7, 2) := by decide +kernel
theorem d_La_law_443 : decode b_La_law 443 = .ok (.aload_n 2, 1) := by decide +kernel
theorem d_La_law_444 : decode b_La_law 444 = .ok (.invokevirtual 57, 3) := by decide +kernel
theorem d_La_law_447 : decode b_La_law 447 = .ok (.iload 6, 2) := by decide +kernel
theorem d_La_law_449 : decode b_La_law 449 = .ok (.if_icmp .eq 5, 3) := by decide +kernel
theorem d_La_law_452 : decode b_La_law 452 = .ok (.iconst 0, 1) := by decide +kernel
theorem d_La_law_453 : decode b_La_law 453 = .ok (.ireturn, 1) := by decide +kernel
theorem d_La_law_454 : decode b_La_law 454 = .ok (.iload 6, 2) := by decide +kernel
theorem d_La_law_456 : decode b_La_law 456 = .ok (.ifCond .ne 35, 3) := by decide +kernel
theorem d_La_law_459 : decode b_La_law 459 = .ok (.aload 4, 2) := by decide +kernel
theorem d_La_law_461 : decode b_La_law 461 = .ok (.iconst 0, 1) := by decide +kernel
theorem d_La_law_462 : decode b_La_law 462 = .ok (.daload, 1) := by decide +kernel
theorem d_La_law_463 : decode b_La_law 463 = .ok (.dload 7, 2) := by decide +kernel
theorem d_La_law_465 : decode b_La_law 465 = .ok (.dcmp .l, 1) := by decide +kernel
theorem d_La_law_466 : decode b_La_law 466 = .ok (.ifCond .eq 25, 3) := by decide +kernel
theorem d_La_law_469 : decode b_La_law 469 = .ok (.aload 4, 2) := by decide +kernel
theorem d_La_law_471 : decode b_La_law 471 = .ok (.iconst 0, 1) := by decide +kernel
theorem d_La_law_472 : decode b_La_law 472 = .ok (.daload, 1) := by decide +kernel
theorem d_La_law_473 : decode b_La_law 473 = .ok (.aload 4, 2) := by decide +kernel
theorem d_La_law_475 : decode b_La_law 475 = .ok (.iconst 0, 1) := by decide +kernel
theorem d_La_law_476 : decode b_La_law 476 = .ok (.daload, 1) := by decide +kernel
theorem d_La_law_477 : decode b_La_law 477 = .ok (.dcmp .l, 1) := by decide +kernel
theorem d_La_law_478 : decode b_La_law 478 = .ok (.ifCond .eq 11, 3) := by decide +kernel
theorem d_La_law_481 : decode b_La_law 481 = .ok (.dload 7, 2) := by decide +kernel
theorem d_La_law_483 : decode b_La_law 483 = .ok (.dload 7, 2) := by decide +kernel
theorem d_La_law_485 : decode b_La_law 485 = .ok (.dcmp .l, 1) := by decide +kernel
theorem d_La_law_486 : decode b_La_law 486 = .ok (.ifCond .ne 5, 3) := by decide +kernel
theorem d_La_law_489 : decode b_La_law 489 = .ok (.iconst 0, 1) := by decide +kernel
theorem d_La_law_490 : decode b_La_law 490 = .ok (.ireturn, 1) := by decide +kernel
theorem d_La_law_491 : decode b_La_law 491 = .ok (.goto 173, 3) := by decide +kernel
theorem d_La_law_494 : decode b_La_law 494 = .ok (.aload_n 1, 1) := by decide +kernel
theorem d_La_law_495 : decode b_La_law 495 = .ok (.aload_n 0, 1) := by decide +kernel
theorem d_La_law_496 : decode b_La_law 496 = .ok (.iload 5, 2) := by decide +kernel
theorem d_La_law_498 : decode b_La_law 498 = .ok (.iconst 1, 1) := by decide +kernel
theorem d_La_law_499 : decode b_La_law 499 = .ok (.iadd, 1) := by decide +kernel
theorem d_La_law_500 : decode b_La_law 500 = .ok (.iaload, 1) := by decide +kernel
theorem d_La_law_501 : decode b_La_law 501 = .ok (.aload 4, 2) := by decide +kernel
theorem d_La_law_503 : decode b_La_law 503 = .ok (.invokestatic 86, 3) := by decide +kernel
theorem d_La_law_506 : decode b_La_law 506 = .ok (.istore 6, 2) := by decide +kernel
theorem d_La_law_508 : decode b_La_law 508 = .ok (.aload_n 2, 1) := by decide +kernel
theorem d_La_law_509 : decode b_La_law 509 = .ok (.aload_n 0, 1) := by decide +kernel
theorem d_La_law_510 : decode b_La_law 510 = .ok (.iload 5, 2) := by decide +kernel
theorem d_La_law_512 : decode b_La_law 512 = .ok (.iconst 1, 1) := by decide +kernel
theorem d_La_law_513 : decode b_La_law 513 = .ok (.iadd, 1) := by decide +kernel
theorem d_La_law_514 : decode b_La_law 514 = .ok (.iaload, 1) := by decide +kernel
theorem d_La_law_515 : decode b_La_law 515 = .ok (.invokevirtual 88, 3) := by decide +kernel
theorem d_La_law_518 : decode b_La_law 518 = .ok (.dstore 7, 2) := by decide +kernel
theorem d_La_law_520 : decode b_La_law 520 = .ok (.aload_n 2, 1) := by decide +kernel
theorem d_La_law_521 : decode b_La_law 521 = .ok (.invokevirtual 57, 3) := by decide +kernel
theorem d_La_law_524 : decode b_La_law 524 = .ok (.iload 6, 2) := by decide +kernel
theorem d_La_law_526 : decode b_La_law 526 = .ok (.if_icmp .eq 5, 3) := by decide +kernel
theorem d_La_law_529 : decode b_La_law 529 = .ok (.iconst 0, 1) := by decide +kernel
theorem d_La_law_530 : decode b_La_law 530 = .ok (.ireturn, 1) := by decide +kernel
theorem d_La_law_531 : decode b_La_law 531 = .ok (.iload 6, 2) := by decide +kernel
theorem d_La_law_533 : decode b_La_law 533 = .ok (.ifCond .ne 35, 3) := by decide +kernel
theorem d_La_law_536 : decode b_La_law 536 = .ok (.aload 4, 2) := by decide +kernel
theorem d_La_law_538 : decode b_La_law 538 = .ok (.iconst 0, 1) := by decide +kernel
theorem d_La_law_539 : decode b_La_law 539 = .ok (.daload, 1) := by decide +kernel
theorem d_La_law_540 : decode b_La_law 540 = .ok (.dload 7, 2) := by decide +kernel
theorem d_La_law_542 : decode b_La_law 542 = .ok (.dcmp .l, 1) := by decide +kernel
theorem d_La_law_543 : decode b_La_law 543 = .ok (.ifCond .eq 25, 3) := by decide +kernel
theorem d_La_law_546 : decode b_La_law 546 = .ok (.aload 4, 2) := by decide +kernel
theorem d_La_law_548 : decode b_La_law 548 = .ok (.iconst 0, 1) := by decide +kernel
theorem d_La_law_549 : decode b_La_law 549 = .ok (.daload, 1) := by decide +kernel
theorem d_La_law_550 : decode b_La_law 550 = .ok (.aload 4, 2) := by decide +kernel
theorem d_La_law_552 : decode b_La_law 552 = .ok (.iconst 0, 1) := by decide +kernel
theorem d_La_law_553 : decode b_La_law 553 = .ok (.daload, 1) := by decide +kernel
theorem d_La_law_554 : decode b_La_law 554 = .ok (.dcmp .l, 1) := by decide +kernel
theorem d_La_law_555 : decode b_La_law 555 = .ok (.ifCond .eq 11, 3) := by decide +kernel
theorem d_La_law_558 : decode b_La_law 558 = .ok (.dload 7, 2) := by decide +kernel
theorem d_La_law_560 : decode b_La_law 560 = .ok (.dload 7, 2) := by decide +kernel
theorem d_La_law_562 : decode b_La_law 562 = .ok (.dcmp .l, 1) := by decide +kernel
theorem d_La_law_563 : decode b_La_law 563 = .ok (.ifCond .ne 5, 3) := by decide +kernel
theorem d_La_law_566 : decode b_La_law 566 = .ok (.iconst 0, 1) := by decide +kernel
theorem d_La_law_567 : decode b_La_law 567 = .ok (.ireturn, 1) := by decide +kernel
theorem d_La_law_568 : decode b_La_law 568 = .ok (.goto 96, 3) := by decide +kernel
theorem d_La_law_571 : decode b_La_law 571 = .ok (.aload_n 1, 1) := by decide +kernel
theorem d_La_law_572 : decode b_La_law 572 = .ok (.aload_n 0, 1) := by decide +kernel
theorem d_La_law_573 : decode b_La_law 573 = .ok (.iload 5, 2) := by decide +kernel
theorem d_La_law_575 : decode b_La_law 575 = .ok (.iconst 1, 1) := by decide +kernel
theorem d_La_law_576 : decode b_La_law 576 = .ok (.iadd, 1) := by decide +kernel
theorem d_La_law_577 : decode b_La_law 577 = .ok (.iaload, 1) := by decide +kernel
theorem d_La_law_578 : decode b_La_law 578 = .ok (.aload_n 0, 1) := by decide +kernel
theorem d_La_law_579 : decode b_La_law 579 = .ok (.iload 5, 2) := by decide +kernel
theorem d_La_law_581 : decode b_La_law 581 = .ok (.iconst 2, 1) := by decide +kernel
theorem d_La_law_582 : decode b_La_law 582 = .ok (.iadd, 1) := by decide +kernel
theorem d_La_law_583 : decode b_La_law 583 = .ok (.iaload, 1) := by decide +kernel
theorem d_La_law_584 : decode b_La_law 584 = .ok (.aload_n 3, 1) := by decide +kernel
theorem d_La_law_585 : decode b_La_law 585 = .ok (.invokestatic 89, 3) := by decide +kernel
theorem d_La_law_588 : decode b_La_law 588 = .ok (.istore 6, 2) := by decide +kernel
theorem d_La_law_590 : decode b_La_law 590 = .ok (.aload_n 2, 1) := by decide +kernel
theorem d_La_law_591 : decode b_La_law 591 = .ok (.aload_n 0, 1) := by decide +kernel
theorem d_La_law_592 : decode b_La_law 592 = .ok (.iload 5, 2) := by decide +kernel
theorem d_La_law_594 : decode b_La_law 594 = .ok (.iconst 1, 1) := by decide +kernel
theorem d_La_law_595 : decode b_La_law 595 = .ok (.iadd, 1) := by decide +kernel
theorem d_La_law_596 : decode b_La_law 596 = .ok (.iaload, 1) := by decide +kernel
theorem d_La_law_597 : decode b_La_law 597 = .ok (.aload_n 0, 1) := by decide +kernel
theorem d_La_law_598 : decode b_La_law 598 = .ok (.iload 5, 2) := by decide +kernel
theorem d_La_law_600 : decode b_La_law 600 = .ok (.iconst 2, 1) := by decide +kernel
theorem d_La_law_601 : decode b_La_law 601 = .ok (.iadd, 1) := by decide +kernel
theorem d_La_law_602 : decode b_La_law 602 = .ok (.iaload, 1) := by decide +kernel
theorem d_La_law_603 : decode b_La_law 603 = .ok (.invokevirtual 92, 3) := by decide +kernel
theorem d_La_law_606 : decode b_La_law 606 = .ok (.istore 7, 2) := by decide +kernel
theorem d_La_law_608 : decode b_La_law 608 = .ok (.aload_n 2, 1) := by decide +kernel
theorem d_La_law_609 : decode b_La_law 609 = .ok (.invokevirtual 57, 3) := by decide +kernel
theorem d_La_law_612 : decode b_La_law 612 = .ok (.iload 6, 2) := by decide +kernel
theorem d_La_law_614 : decode b_La_law 614 = .ok (.if_icmp .eq 5, 3) := by decide +kernel
theorem d_La_law_617 : decode b_La_law 617 = .ok (.iconst 0, 1) := by decide +kernel
theorem d_La_law_618 : decode b_La_law 618 = .ok (.ireturn, 1) := by decide +kernel
theorem d_La_law_619 : decode b_La_law 619 = .ok (.iload 6, 2) := by decide +kernel
theorem d_La_law_621 : decode b_La_law 621 = .ok (.ifCond .ne 15, 3) := by decide +kernel
theorem d_La_law_624 : decode b_La_law 624 = .ok (.aload_n 3, 1) := by decide +kernel
theorem d_La_law_625 : decode b_La_law 625 = .ok (.iconst 0, 1) := by decide +kernel
theorem d_La_law_626 : decode b_La_law 626 = .ok (.laload, 1) := by decide +kernel
theorem d_La_law_627 : decode b_La_law 627 = .ok (.iload 7, 2) := by decide +kernel
theorem d_La_law_629 : decode b_La_law 629 = .ok (.i2l, 1) := by decide +kernel
theorem d_La_law_630 : decode b_La_law 630 = .ok (.lcmp, 1) := by decide +kernel
theorem d_La_law_631 : decode b_La_law 631 = .ok (.ifCond .eq 5, 3) := by decide +kernel
theorem d_La_law_634 : decode b_La_law 634 = .ok (.iconst 0, 1) := by decide +kernel
theorem d_La_law_635 : decode b_La_law 635 = .ok (.ireturn, 1) := by decide +kernel
theorem d_La_law_636 : decode b_La_law 636 = .ok (.goto 28, 3) := by decide +kernel
theorem d_La_law_639 : decode b_La_law 639 = .ok (.aload_n 1, 1) := by decide +kernel
theorem d_La_law_640 : decode b_La_law 640 = .ok (.aload_n 0, 1) := by decide +kernel
theorem d_La_law_641 : decode b_La_law 641 = .ok (.iload 5, 2) := by decide +kernel
theorem d_La_law_643 : decode b_La_law 643 = .ok (.iconst 1, 1) := by decide +kernel
theorem d_La_law_644 : decode b_La_law 644 = .ok (.iadd, 1) := by decide +kernel
theorem d_La_law_645 : decode b_La_law 645 = .ok (.iaload, 1) := by decide +kernel
theorem d_La_law_646 : decode b_La_law 646 = .ok (.invokevirtual 93, 3) := by decide +kernel
theorem d_La_law_649 : decode b_La_law 649 = .ok (.aload_n 2, 1) := by decide +kernel
theorem d_La_law_650 : decode b_La_law 650 = .ok (.aload_n 0, 1) := by decide +kernel
theorem d_La_law_651 : decode b_La_law 651 = .ok (.iload 5, 2) := by decide +kernel
theorem d_La_law_653 : decode b_La_law 653 = .ok (.iconst 1, 1) := by decide +kernel
theorem d_La_law_654 : decode b_La_law 654 = .ok (.iadd, 1) := by decide +kernel
theorem d_La_law_655 : decode b_La_law 655 = .ok (.iaload, 1) := by decide +kernel
theorem d_La_law_656 : decode b_La_law 656 = .ok (.invokevirtual 96, 3) := by decide +kernel
theorem d_La_law_659 : decode b_La_law 659 = .ok (.if_icmp .eq 5, 3) := by decide +kernel
theorem d_La_law_662 : decode b_La_law 662 = .ok (.iconst 0, 1) := by decide +kernel
theorem d_La_law_663 : decode b_La_law 663 = .ok (.ireturn, 1) := by decide +kernel
theorem d_La_law_664 : decode b_La_law 664 = .ok (.iinc 5 7, 3) := by decide +kernel
theorem d_La_law_667 : decode b_La_law 667 = .ok (.goto (-639), 3) := by decide +kernel
theorem d_La_law_670 : decode b_La_law 670 = .ok (.iconst 1, 1) := by decide +kernel
theorem d_La_law_671 : decode b_La_law 671 = .ok (.ireturn, 1) := by decide +kernel
