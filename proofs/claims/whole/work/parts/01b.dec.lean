/-! DECODE ROWS, by program -/
theorem d_Ck_init_0 : decode b_Ck_init 0 = .ok (.aload_n 0, 1) := by decide +kernel
theorem d_Ck_init_1 : decode b_Ck_init 1 = .ok (.invokespecial 3, 3) := by decide +kernel
theorem d_Ck_init_4 : decode b_Ck_init 4 = .ok (.aload_n 0, 1) := by decide +kernel
theorem d_Ck_init_5 : decode b_Ck_init 5 = .ok (.bipush 12, 2) := by decide +kernel
theorem d_Ck_init_7 : decode b_Ck_init 7 = .ok (.newarray .int, 2) := by decide +kernel
theorem d_Ck_init_9 : decode b_Ck_init 9 = .ok (.putfield 9, 3) := by decide +kernel
theorem d_Ck_init_12 : decode b_Ck_init 12 = .ok (.aload_n 0, 1) := by decide +kernel
theorem d_Ck_init_13 : decode b_Ck_init 13 = .ok (.iconst (-1), 1) := by decide +kernel
theorem d_Ck_init_14 : decode b_Ck_init 14 = .ok (.putfield 15, 3) := by decide +kernel
theorem d_Ck_init_17 : decode b_Ck_init 17 = .ok (.aload_n 0, 1) := by decide +kernel
theorem d_Ck_init_18 : decode b_Ck_init 18 = .ok (.iconst 0, 1) := by decide +kernel
theorem d_Ck_init_19 : decode b_Ck_init 19 = .ok (.putfield 19, 3) := by decide +kernel
theorem d_Ck_init_22 : decode b_Ck_init 22 = .ok (.aload_n 0, 1) := by decide +kernel
theorem d_Ck_init_23 : decode b_Ck_init 23 = .ok (.iconst 0, 1) := by decide +kernel
theorem d_Ck_init_24 : decode b_Ck_init 24 = .ok (.putfield 22, 3) := by decide +kernel
theorem d_Ck_init_27 : decode b_Ck_init 27 = .ok (.aload_n 0, 1) := by decide +kernel
theorem d_Ck_init_28 : decode b_Ck_init 28 = .ok (.iconst 0, 1) := by decide +kernel
theorem d_Ck_init_29 : decode b_Ck_init 29 = .ok (.putfield 25, 3) := by decide +kernel
theorem d_Ck_init_32 : decode b_Ck_init 32 = .ok (.return_, 1) := by decide +kernel
theorem d_Ck_reset_0 : decode b_Ck_reset 0 = .ok (.aload_n 0, 1) := by decide +kernel
theorem d_Ck_reset_1 : decode b_Ck_reset 1 = .ok (.getfield 9, 3) := by decide +kernel
theorem d_Ck_reset_4 : decode b_Ck_reset 4 = .ok (.iconst 0, 1) := by decide +kernel
theorem d_Ck_reset_5 : decode b_Ck_reset 5 = .ok (.invokestatic 29, 3) := by decide +kernel
theorem d_Ck_reset_8 : decode b_Ck_reset 8 = .ok (.aload_n 0, 1) := by decide +kernel
theorem d_Ck_reset_9 : decode b_Ck_reset 9 = .ok (.iconst (-1), 1) := by decide +kernel
theorem d_Ck_reset_10 : decode b_Ck_reset 10 = .ok (.putfield 15, 3) := by decide +kernel
theorem d_Ck_reset_13 : decode b_Ck_reset 13 = .ok (.aload_n 0, 1) := by decide +kernel
theorem d_Ck_reset_14 : decode b_Ck_reset 14 = .ok (.iconst 0, 1) := by decide +kernel
theorem d_Ck_reset_15 : decode b_Ck_reset 15 = .ok (.putfield 19, 3) := by decide +kernel
theorem d_Ck_reset_18 : decode b_Ck_reset 18 = .ok (.aload_n 0, 1) := by decide +kernel
theorem d_Ck_reset_19 : decode b_Ck_reset 19 = .ok (.iconst 0, 1) := by decide +kernel
theorem d_Ck_reset_20 : decode b_Ck_reset 20 = .ok (.putfield 22, 3) := by decide +kernel
theorem d_Ck_reset_23 : decode b_Ck_reset 23 = .ok (.aload_n 0, 1) := by decide +kernel
theorem d_Ck_reset_24 : decode b_Ck_reset 24 = .ok (.iconst 0, 1) := by decide +kernel
theorem d_Ck_reset_25 : decode b_Ck_reset 25 = .ok (.putfield 25, 3) := by decide +kernel
theorem d_Ck_reset_28 : decode b_Ck_reset 28 = .ok (.return_, 1) := by decide +kernel
theorem d_Ck_begin_0 : decode b_Ck_begin 0 = .ok (.iload_n 3, 1) := by decide +kernel
theorem d_Ck_begin_1 : decode b_Ck_begin 1 = .ok (.ifCond .eq 7, 3) := by decide +kernel
theorem d_Ck_begin_4 : decode b_Ck_begin 4 = .ok (.iconst 5, 1) := by decide +kernel
theorem d_Ck_begin_5 : decode b_Ck_begin 5 = .ok (.goto 4, 3) := by decide +kernel
theorem d_Ck_begin_8 : decode b_Ck_begin 8 = .ok (.iconst 0, 1) := by decide +kernel
theorem d_Ck_begin_9 : decode b_Ck_begin 9 = .ok (.istore 5, 2) := by decide +kernel
theorem d_Ck_begin_11 : decode b_Ck_begin 11 = .ok (.aload_n 1, 1) := by decide +kernel
theorem d_Ck_begin_12 : decode b_Ck_begin 12 = .ok (.invokevirtual 35, 3) := by decide +kernel
theorem d_Ck_begin_15 : decode b_Ck_begin 15 = .ok (.iload 5, 2) := by decide +kernel
theorem d_Ck_begin_17 : decode b_Ck_begin 17 = .ok (.iadd, 1) := by decide +kernel
theorem d_Ck_begin_18 : decode b_Ck_begin 18 = .ok (.istore 6, 2) := by decide +kernel
theorem d_Ck_begin_20 : decode b_Ck_begin 20 = .ok (.aload_n 0, 1) := by decide +kernel
theorem d_Ck_begin_21 : decode b_Ck_begin 21 = .ok (.aload_n 0, 1) := by decide +kernel
theorem d_Ck_begin_22 : decode b_Ck_begin 22 = .ok (.aload_n 1, 1) := by decide +kernel
theorem d_Ck_begin_23 : decode b_Ck_begin 23 = .ok (.iload 6, 2) := by decide +kernel
theorem d_Ck_begin_25 : decode b_Ck_begin 25 = .ok (.iload_n 2, 1) := by decide +kernel
theorem d_Ck_begin_26 : decode b_Ck_begin 26 = .ok (.invokevirtual 41, 3) := by decide +kernel
theorem d_Ck_begin_29 : decode b_Ck_begin 29 = .ok (.putfield 15, 3) := by decide +kernel
theorem d_Ck_begin_32 : decode b_Ck_begin 32 = .ok (.aload_n 0, 1) := by decide +kernel
theorem d_Ck_begin_33 : decode b_Ck_begin 33 = .ok (.iload 4, 2) := by decide +kernel
theorem d_Ck_begin_35 : decode b_Ck_begin 35 = .ok (.putfield 25, 3) := by decide +kernel
theorem d_Ck_begin_38 : decode b_Ck_begin 38 = .ok (.aload_n 1, 1) := by decide +kernel
theorem d_Ck_begin_39 : decode b_Ck_begin 39 = .ok (.getfield 45, 3) := by decide +kernel
theorem d_Ck_begin_42 : decode b_Ck_begin 42 = .ok (.iconst (-1), 1) := by decide +kernel
theorem d_Ck_begin_43 : decode b_Ck_begin 43 = .ok (.if_icmp .eq 19, 3) := by decide +kernel
theorem d_Ck_begin_46 : decode b_Ck_begin 46 = .ok (.aload_n 0, 1) := by decide +kernel
theorem d_Ck_begin_47 : decode b_Ck_begin 47 = .ok (.getfield 9, 3) := by decide +kernel
theorem d_Ck_begin_50 : decode b_Ck_begin 50 = .ok (.aload_n 1, 1) := by decide +kernel
theorem d_Ck_begin_51 : decode b_Ck_begin 51 = .ok (.getfield 45, 3) := by decide +kernel
theorem d_Ck_begin_54 : decode b_Ck_begin 54 = .ok (.aload_n 0, 1) := by decide +kernel
theorem d_Ck_begin_55 : decode b_Ck_begin 55 = .ok (.getfield 15, 3) := by decide +kernel
theorem d_Ck_begin_58 : decode b_Ck_begin 58 = .ok (.iload 6, 2) := by decide +kernel
theorem d_Ck_begin_60 : decode b_Ck_begin 60 = .ok (.iadd, 1) := by decide +kernel
theorem d_Ck_begin_61 : decode b_Ck_begin 61 = .ok (.iastore, 1) := by decide +kernel
theorem d_Ck_begin_62 : decode b_Ck_begin 62 = .ok (.aload_n 1, 1) := by decide +kernel
theorem d_Ck_begin_63 : decode b_Ck_begin 63 = .ok (.getfield 48, 3) := by decide +kernel
theorem d_Ck_begin_66 : decode b_Ck_begin 66 = .ok (.bipush 13, 2) := by decide +kernel
theorem d_Ck_begin_68 : decode b_Ck_begin 68 = .ok (.if_icmp .ne 14, 3) := by decide +kernel
theorem d_Ck_begin_71 : decode b_Ck_begin 71 = .ok (.aload_n 0, 1) := by decide +kernel
theorem d_Ck_begin_72 : decode b_Ck_begin 72 = .ok (.aload_n 0, 1) := by decide +kernel
theorem d_Ck_begin_73 : decode b_Ck_begin 73 = .ok (.getfield 15, 3) := by decide +kernel
theorem d_Ck_begin_76 : decode b_Ck_begin 76 = .ok (.bipush 8, 2) := by decide +kernel
theorem d_Ck_begin_78 : decode b_Ck_begin 78 = .ok (.iadd, 1) := by decide +kernel
theorem d_Ck_begin_79 : decode b_Ck_begin 79 = .ok (.putfield 19, 3) := by decide +kernel
theorem d_Ck_begin_82 : decode b_Ck_begin 82 = .ok (.aload_n 1, 1) := by decide +kernel
theorem d_Ck_begin_83 : decode b_Ck_begin 83 = .ok (.invokevirtual 51, 3) := by decide +kernel
theorem d_Ck_begin_86 : decode b_Ck_begin 86 = .ok (.ifCond .eq 16, 3) := by decide +kernel
theorem d_Ck_begin_89 : decode b_Ck_begin 89 = .ok (.aload_n 0, 1) := by decide +kernel
theorem d_Ck_begin_90 : decode b_Ck_begin 90 = .ok (.aload_n 0, 1) := by decide +kernel
theorem d_Ck_begin_91 : decode b_Ck_begin 91 = .ok (.getfield 15, 3) := by decide +kernel
theorem d_Ck_begin_94 : decode b_Ck_begin 94 = .ok (.iconst 1, 1) := by decide +kernel
theorem d_Ck_begin_95 : decode b_Ck_begin 95 = .ok (.iadd, 1) := by decide +kernel
theorem d_Ck_begin_96 : decode b_Ck_begin 96 = .ok (.iload 5, 2) := by decide +kernel
theorem d_Ck_begin_98 : decode b_Ck_begin 98 = .ok (.iadd, 1) := by decide +kernel
theorem d_Ck_begin_99 : decode b_Ck_begin 99 = .ok (.putfield 22, 3) := by decide +kernel
theorem d_Ck_begin_102 : decode b_Ck_begin 102 = .ok (.return_, 1) := by decide +kernel
theorem d_Ck_beginning_0 : decode b_Ck_beginning 0 = .ok (.aload_n 0, 1) := by decide +kernel
theorem d_Ck_beginning_1 : decode b_Ck_beginning 1 = .ok (.getfield 15, 3) := by decide +kernel
theorem d_Ck_beginning_4 : decode b_Ck_beginning 4 = .ok (.iconst 1, 1) := by decide +kernel
theorem d_Ck_beginning_5 : decode b_Ck_beginning 5 = .ok (.iadd, 1) := by decide +kernel
theorem d_Ck_beginning_6 : decode b_Ck_beginning 6 = .ok (.iload_n 3, 1) := by decide +kernel
theorem d_Ck_beginning_7 : decode b_Ck_beginning 7 = .ok (.ifCond .eq 7, 3) := by decide +kernel
theorem d_Ck_beginning_10 : decode b_Ck_beginning 10 = .ok (.iconst 4, 1) := by decide +kernel
theorem d_Ck_beginning_11 : decode b_Ck_beginning 11 = .ok (.goto 4, 3) := by decide +kernel
theorem d_Ck_beginning_14 : decode b_Ck_beginning 14 = .ok (.iconst 0, 1) := by decide +kernel
theorem d_Ck_beginning_15 : decode b_Ck_beginning 15 = .ok (.iadd, 1) := by decide +kernel
theorem d_Ck_beginning_16 : decode b_Ck_beginning 16 = .ok (.aload_n 0, 1) := by decide +kernel
theorem d_Ck_beginning_17 : decode b_Ck_beginning 17 = .ok (.getfield 25, 3) := by decide +kernel
theorem d_Ck_beginning_20 : decode b_Ck_beginning 20 = .ok (.ifCond .eq 7, 3) := by decide +kernel
theorem d_Ck_beginning_23 : decode b_Ck_beginning 23 = .ok (.iconst 2, 1) := by decide +kernel
theorem d_Ck_beginning_24 : decode b_Ck_beginning 24 = .ok (.goto 4, 3) := by decide +kernel
theorem d_Ck_beginning_27 : decode b_Ck_beginning 27 = .ok (.iconst 0, 1) := by decide +kernel
theorem d_Ck_beginning_28 : decode b_Ck_beginning 28 = .ok (.iadd, 1) := by decide +kernel
theorem d_Ck_beginning_29 : decode b_Ck_beginning 29 = .ok (.istore 4, 2) := by decide +kernel
theorem d_Ck_beginning_31 : decode b_Ck_beginning 31 = .ok (.iload 4, 2) := by decide +kernel
theorem d_Ck_beginning_33 : decode b_Ck_beginning 33 = .ok (.aload_n 0, 1) := by decide +kernel
theorem d_Ck_beginning_34 : decode b_Ck_beginning 34 = .ok (.aload_n 1, 1) := by decide +kernel
theorem d_Ck_beginning_35 : decode b_Ck_beginning 35 = .ok (.getfield 55, 3) := by decide +kernel
theorem d_Ck_beginning_38 : decode b_Ck_beginning 38 = .ok (.invokevirtual 58, 3) := by decide +kernel
theorem d_Ck_beginning_41 : decode b_Ck_beginning 41 = .ok (.invokestatic 62, 3) := by decide +kernel
theorem d_Ck_beginning_44 : decode b_Ck_beginning 44 = .ok (.istore 4, 2) := by decide +kernel
theorem d_Ck_beginning_46 : decode b_Ck_beginning 46 = .ok (.iload 4, 2) := by decide +kernel
theorem d_Ck_beginning_48 : decode b_Ck_beginning 48 = .ok (.aload_n 0, 1) := by decide +kernel
theorem d_Ck_beginning_49 : decode b_Ck_beginning 49 = .ok (.aload_n 1, 1) := by decide +kernel
theorem d_Ck_beginning_50 : decode b_Ck_beginning 50 = .ok (.getfield 68, 3) := by decide +kernel
theorem d_Ck_beginning_53 : decode b_Ck_beginning 53 = .ok (.invokevirtual 58, 3) := by decide +kernel
theorem d_Ck_beginning_56 : decode b_Ck_beginning 56 = .ok (.invokestatic 62, 3) := by decide +kernel
theorem d_Ck_beginning_59 : decode b_Ck_beginning 59 = .ok (.istore 4, 2) := by decide +kernel
theorem d_Ck_beginning_61 : decode b_Ck_beginning 61 = .ok (.aload_n 1, 1) := by decide +kernel
theorem d_Ck_beginning_62 : decode b_Ck_beginning 62 = .ok (.getfield 48, 3) := by decide +kernel
theorem d_Ck_beginning_65 : decode b_Ck_beginning 65 = .ok (.bipush 13, 2) := by decide +kernel
theorem d_Ck_beginning_67 : decode b_Ck_beginning 67 = .ok (.if_icmp .ne 14, 3) := by decide +kernel
theorem d_Ck_beginning_70 : decode b_Ck_beginning 70 = .ok (.iload 4, 2) := by decide +kernel
theorem d_Ck_beginning_72 : decode b_Ck_beginning 72 = .ok (.aload_n 0, 1) := by decide +kernel
theorem d_Ck_beginning_73 : decode b_Ck_beginning 73 = .ok (.getfield 19, 3) := by decide +kernel
theorem d_Ck_beginning_76 : decode b_Ck_beginning 76 = .ok (.invokestatic 62, 3) := by decide +kernel
theorem d_Ck_beginning_79 : decode b_Ck_beginning 79 = .ok (.istore 4, 2) := by decide +kernel
theorem d_Ck_beginning_81 : decode b_Ck_beginning 81 = .ok (.aload_n 1, 1) := by decide +kernel
theorem d_Ck_beginning_82 : decode b_Ck_beginning 82 = .ok (.invokevirtual 51, 3) := by decide +kernel
theorem d_Ck_beginning_85 : decode b_Ck_beginning 85 = .ok (.ifCond .eq 14, 3) := by decide +kernel
theorem d_Ck_beginning_88 : decode b_Ck_beginning 88 = .ok (.iload 4, 2) := by decide +kernel
theorem d_Ck_beginning_90 : decode b_Ck_beginning 90 = .ok (.aload_n 0, 1) := by decide +kernel
theorem d_Ck_beginning_91 : decode b_Ck_beginning 91 = .ok (.getfield 22, 3) := by decide +kernel
theorem d_Ck_beginning_94 : decode b_Ck_beginning 94 = .ok (.invokestatic 62, 3) := by decide +kernel
theorem d_Ck_beginning_97 : decode b_Ck_beginning 97 = .ok (.istore 4, 2) := by decide +kernel
theorem d_Ck_beginning_99 : decode b_Ck_beginning 99 = .ok (.iload 4, 2) := by decide +kernel
theorem d_Ck_beginning_101 : decode b_Ck_beginning 101 = .ok (.aload_n 0, 1) := by decide +kernel
theorem d_Ck_beginning_102 : decode b_Ck_beginning 102 = .ok (.aload_n 1, 1) := by decide +kernel
theorem d_Ck_beginning_103 : decode b_Ck_beginning 103 = .ok (.getfield 45, 3) := by decide +kernel
theorem d_Ck_beginning_106 : decode b_Ck_beginning 106 = .ok (.invokevirtual 58, 3) := by decide +kernel
theorem d_Ck_beginning_109 : decode b_Ck_beginning 109 = .ok (.iload_n 2, 1) := by decide +kernel
theorem d_Ck_beginning_110 : decode b_Ck_beginning 110 = .ok (.isub, 1) := by decide +kernel
theorem d_Ck_beginning_111 : decode b_Ck_beginning 111 = .ok (.iconst 1, 1) := by decide +kernel
theorem d_Ck_beginning_112 : decode b_Ck_beginning 112 = .ok (.iadd, 1) := by decide +kernel
theorem d_Ck_beginning_113 : decode b_Ck_beginning 113 = .ok (.invokestatic 62, 3) := by decide +kernel
theorem d_Ck_beginning_116 : decode b_Ck_beginning 116 = .ok (.ireturn, 1) := by decide +kernel
theorem d_Ck_readyTime_0 : decode b_Ck_readyTime 0 = .ok (.iload_n 1, 1) := by decide +kernel
theorem d_Ck_readyTime_1 : decode b_Ck_readyTime 1 = .ok (.iconst (-1), 1) := by decide +kernel
theorem d_Ck_readyTime_2 : decode b_Ck_readyTime 2 = .ok (.if_icmp .ne 7, 3) := by decide +kernel
theorem d_Ck_readyTime_5 : decode b_Ck_readyTime 5 = .ok (.iconst 0, 1) := by decide +kernel
theorem d_Ck_readyTime_6 : decode b_Ck_readyTime 6 = .ok (.goto 9, 3) := by decide +kernel
theorem d_Ck_readyTime_9 : decode b_Ck_readyTime 9 = .ok (.aload_n 0, 1) := by decide +kernel
theorem d_Ck_readyTime_10 : decode b_Ck_readyTime 10 = .ok (.getfield 9, 3) := by decide +kernel
theorem d_Ck_readyTime_13 : decode b_Ck_readyTime 13 = .ok (.iload_n 1, 1) := by decide +kernel
theorem d_Ck_readyTime_14 : decode b_Ck_readyTime 14 = .ok (.iaload, 1) := by decide +kernel
theorem d_Ck_readyTime_15 : decode b_Ck_readyTime 15 = .ok (.ireturn, 1) := by decide +kernel
theorem d_Cc_init_0 : decode b_Cc_init 0 = .ok (.aload_n 0, 1) := by decide +kernel
theorem d_Cc_init_1 : decode b_Cc_init 1 = .ok (.invokespecial 3, 3) := by decide +kernel
theorem d_Cc_init_4 : decode b_Cc_init 4 = .ok (.aload_n 0, 1) := by decide +kernel
theorem d_Cc_init_5 : decode b_Cc_init 5 = .ok (.iconst 0, 1) := by decide +kernel
theorem d_Cc_init_6 : decode b_Cc_init 6 = .ok (.putfield 9, 3) := by decide +kernel
theorem d_Cc_init_9 : decode b_Cc_init 9 = .ok (.aload_n 0, 1) := by decide +kernel
theorem d_Cc_init_10 : decode b_Cc_init 10 = .ok (.iconst 2, 1) := by decide +kernel
theorem d_Cc_init_11 : decode b_Cc_init 11 = .ok (.newarray .int, 2) := by decide +kernel
theorem d_Cc_init_13 : decode b_Cc_init 13 = .ok (.putfield 15, 3) := by decide +kernel
theorem d_Cc_init_16 : decode b_Cc_init 16 = .ok (.aload_n 0, 1) := by decide +kernel
theorem d_Cc_init_17 : decode b_Cc_init 17 = .ok (.invokevirtual 19, 3) := by decide +kernel
theorem d_Cc_init_20 : decode b_Cc_init 20 = .ok (.return_, 1) := by decide +kernel
theorem d_Cc_empty_0 : decode b_Cc_empty 0 = .ok (.aload_n 0, 1) := by decide +kernel
theorem d_Cc_empty_1 : decode b_Cc_empty 1 = .ok (.getfield 15, 3) := by decide +kernel
theorem d_Cc_empty_4 : decode b_Cc_empty 4 = .ok (.iconst (-1), 1) := by decide +kernel
theorem d_Cc_empty_5 : decode b_Cc_empty 5 = .ok (.invokestatic 22, 3) := by decide +kernel
theorem d_Cc_empty_8 : decode b_Cc_empty 8 = .ok (.aload_n 0, 1) := by decide +kernel
theorem d_Cc_empty_9 : decode b_Cc_empty 9 = .ok (.iconst 0, 1) := by decide +kernel
theorem d_Cc_empty_10 : decode b_Cc_empty 10 = .ok (.putfield 9, 3) := by decide +kernel
theorem d_Cc_empty_13 : decode b_Cc_empty 13 = .ok (.return_, 1) := by decide +kernel
theorem d_Cc_misses_0 : decode b_Cc_misses 0 = .ok (.iload_n 1, 1) := by decide +kernel
theorem d_Cc_misses_1 : decode b_Cc_misses 1 = .ok (.iconst 2, 1) := by decide +kernel
theorem d_Cc_misses_2 : decode b_Cc_misses 2 = .ok (.irem, 1) := by decide +kernel
theorem d_Cc_misses_3 : decode b_Cc_misses 3 = .ok (.istore_n 2, 1) := by decide +kernel
theorem d_Cc_misses_4 : decode b_Cc_misses 4 = .ok (.aload_n 0, 1) := by decide +kernel
theorem d_Cc_misses_5 : decode b_Cc_misses 5 = .ok (.getfield 15, 3) := by decide +kernel
theorem d_Cc_misses_8 : decode b_Cc_misses 8 = .ok (.iload_n 2, 1) := by decide +kernel
theorem d_Cc_misses_9 : decode b_Cc_misses 9 = .ok (.iaload, 1) := by decide +kernel
theorem d_Cc_misses_10 : decode b_Cc_misses 10 = .ok (.iload_n 1, 1) := by decide +kernel
theorem d_Cc_misses_11 : decode b_Cc_misses 11 = .ok (.if_icmp .ne 5, 3) := by decide +kernel
theorem d_Cc_misses_14 : decode b_Cc_misses 14 = .ok (.iconst 0, 1) := by decide +kernel
theorem d_Cc_misses_15 : decode b_Cc_misses 15 = .ok (.ireturn, 1) := by decide +kernel
theorem d_Cc_misses_16 : decode b_Cc_misses 16 = .ok (.aload_n 0, 1) := by decide +kernel
theorem d_Cc_misses_17 : decode b_Cc_misses 17 = .ok (.getfield 15, 3) := by decide +kernel
theorem d_Cc_misses_20 : decode b_Cc_misses 20 = .ok (.iload_n 2, 1) := by decide +kernel
theorem d_Cc_misses_21 : decode b_Cc_misses 21 = .ok (.iload_n 1, 1) := by decide +kernel
theorem d_Cc_misses_22 : decode b_Cc_misses 22 = .ok (.iastore, 1) := by decide +kernel
theorem d_Cc_misses_23 : decode b_Cc_misses 23 = .ok (.aload_n 0, 1) := by decide +kernel
theorem d_Cc_misses_24 : decode b_Cc_misses 24 = .ok (.dup, 1) := by decide +kernel
theorem d_Cc_misses_25 : decode b_Cc_misses 25 = .ok (.getfield 9, 3) := by decide +kernel
theorem d_Cc_misses_28 : decode b_Cc_misses 28 = .ok (.iconst 1, 1) := by decide +kernel
theorem d_Cc_misses_29 : decode b_Cc_misses 29 = .ok (.iadd, 1) := by decide +kernel
theorem d_Cc_misses_30 : decode b_Cc_misses 30 = .ok (.putfield 9, 3) := by decide +kernel
theorem d_Cc_misses_33 : decode b_Cc_misses 33 = .ok (.iconst 1, 1) := by decide +kernel
theorem d_Cc_misses_34 : decode b_Cc_misses 34 = .ok (.ireturn, 1) := by decide +kernel
theorem d_Dc_init_0 : decode b_Dc_init 0 = .ok (.aload_n 0, 1) := by decide +kernel
theorem d_Dc_init_1 : decode b_Dc_init 1 = .ok (.invokespecial 3, 3) := by decide +kernel
theorem d_Dc_init_4 : decode b_Dc_init 4 = .ok (.aload_n 0, 1) := by decide +kernel
theorem d_Dc_init_5 : decode b_Dc_init 5 = .ok (.iconst 0, 1) := by decide +kernel
theorem d_Dc_init_6 : decode b_Dc_init 6 = .ok (.putfield 9, 3) := by decide +kernel
theorem d_Dc_init_9 : decode b_Dc_init 9 = .ok (.aload_n 0, 1) := by decide +kernel
theorem d_Dc_init_10 : decode b_Dc_init 10 = .ok (.iconst 4, 1) := by decide +kernel
theorem d_Dc_init_11 : decode b_Dc_init 11 = .ok (.newarray .int, 2) := by decide +kernel
theorem d_Dc_init_13 : decode b_Dc_init 13 = .ok (.putfield 15, 3) := by decide +kernel
theorem d_Dc_init_16 : decode b_Dc_init 16 = .ok (.aload_n 0, 1) := by decide +kernel
theorem d_Dc_init_17 : decode b_Dc_init 17 = .ok (.iconst 4, 1) := by decide +kernel
theorem d_Dc_init_18 : decode b_Dc_init 18 = .ok (.newarray .int, 2) := by decide +kernel
theorem d_Dc_init_20 : decode b_Dc_init 20 = .ok (.putfield 19, 3) := by decide +kernel
theorem d_Dc_init_23 : decode b_Dc_init 23 = .ok (.aload_n 0, 1) := by decide +kernel
theorem d_Dc_init_24 : decode b_Dc_init 24 = .ok (.iconst 0, 1) := by decide +kernel
theorem d_Dc_init_25 : decode b_Dc_init 25 = .ok (.putfield 22, 3) := by decide +kernel
theorem d_Dc_init_28 : decode b_Dc_init 28 = .ok (.aload_n 0, 1) := by decide +kernel
theorem d_Dc_init_29 : decode b_Dc_init 29 = .ok (.invokevirtual 25, 3) := by decide +kernel
theorem d_Dc_init_32 : decode b_Dc_init 32 = .ok (.return_, 1) := by decide +kernel
theorem d_Dc_empty_0 : decode b_Dc_empty 0 = .ok (.aload_n 0, 1) := by decide +kernel
theorem d_Dc_empty_1 : decode b_Dc_empty 1 = .ok (.getfield 15, 3) := by decide +kernel
theorem d_Dc_empty_4 : decode b_Dc_empty 4 = .ok (.iconst (-1), 1) := by decide +kernel
theorem d_Dc_empty_5 : decode b_Dc_empty 5 = .ok (.invokestatic 28, 3) := by decide +kernel
theorem d_Dc_empty_8 : decode b_Dc_empty 8 = .ok (.aload_n 0, 1) := by decide +kernel
theorem d_Dc_empty_9 : decode b_Dc_empty 9 = .ok (.getfield 19, 3) := by decide +kernel
theorem d_Dc_empty_12 : decode b_Dc_empty 12 = .ok (.iconst 0, 1) := by decide +kernel
theorem d_Dc_empty_13 : decode b_Dc_empty 13 = .ok (.invokestatic 28, 3) := by decide +kernel
theorem d_Dc_empty_16 : decode b_Dc_empty 16 = .ok (.aload_n 0, 1) := by decide +kernel
theorem d_Dc_empty_17 : decode b_Dc_empty 17 = .ok (.iconst 0, 1) := by decide +kernel
theorem d_Dc_empty_18 : decode b_Dc_empty 18 = .ok (.putfield 22, 3) := by decide +kernel
theorem d_Dc_empty_21 : decode b_Dc_empty 21 = .ok (.aload_n 0, 1) := by decide +kernel
theorem d_Dc_empty_22 : decode b_Dc_empty 22 = .ok (.iconst 0, 1) := by decide +kernel
theorem d_Dc_empty_23 : decode b_Dc_empty 23 = .ok (.putfield 9, 3) := by decide +kernel
theorem d_Dc_empty_26 : decode b_Dc_empty 26 = .ok (.return_, 1) := by decide +kernel
theorem d_Dc_misses_0 : decode b_Dc_misses 0 = .ok (.iload_n 1, 1) := by decide +kernel
theorem d_Dc_misses_1 : decode b_Dc_misses 1 = .ok (.iconst 2, 1) := by decide +kernel
theorem d_Dc_misses_2 : decode b_Dc_misses 2 = .ok (.irem, 1) := by decide +kernel
theorem d_Dc_misses_3 : decode b_Dc_misses 3 = .ok (.iconst 2, 1) := by decide +kernel
theorem d_Dc_misses_4 : decode b_Dc_misses 4 = .ok (.imul, 1) := by decide +kernel
theorem d_Dc_misses_5 : decode b_Dc_misses 5 = .ok (.istore_n 2, 1) := by decide +kernel
theorem d_Dc_misses_6 : decode b_Dc_misses 6 = .ok (.iload_n 2, 1) := by decide +kernel
theorem d_Dc_misses_7 : decode b_Dc_misses 7 = .ok (.iconst 1, 1) := by decide +kernel
theorem d_Dc_misses_8 : decode b_Dc_misses 8 = .ok (.iadd, 1) := by decide +kernel
theorem d_Dc_misses_9 : decode b_Dc_misses 9 = .ok (.istore_n 3, 1) := by decide +kernel
theorem d_Dc_misses_10 : decode b_Dc_misses 10 = .ok (.aload_n 0, 1) := by decide +kernel
theorem d_Dc_misses_11 : decode b_Dc_misses 11 = .ok (.dup, 1) := by decide +kernel
theorem d_Dc_misses_12 : decode b_Dc_misses 12 = .ok (.getfield 22, 3) := by decide +kernel
theorem d_Dc_misses_15 : decode b_Dc_misses 15 = .ok (.iconst 1, 1) := by decide +kernel
theorem d_Dc_misses_16 : decode b_Dc_misses 16 = .ok (.iadd, 1) := by decide +kernel
theorem d_Dc_misses_17 : decode b_Dc_misses 17 = .ok (.putfield 22, 3) := by decide +kernel
theorem d_Dc_misses_20 : decode b_Dc_misses 20 = .ok (.aload_n 0, 1) := by decide +kernel
theorem d_Dc_misses_21 : decode b_Dc_misses 21 = .ok (.getfield 15, 3) := by decide +kernel
theorem d_Dc_misses_24 : decode b_Dc_misses 24 = .ok (.iload_n 2, 1) := by decide +kernel
theorem d_Dc_misses_25 : decode b_Dc_misses 25 = .ok (.iaload, 1) := by decide +kernel
theorem d_Dc_misses_26 : decode b_Dc_misses 26 = .ok (.iload_n 1, 1) := by decide +kernel
theorem d_Dc_misses_27 : decode b_Dc_misses 27 = .ok (.if_icmp .eq 13, 3) := by decide +kernel
theorem d_Dc_misses_30 : decode b_Dc_misses 30 = .ok (.aload_n 0, 1) := by decide +kernel
theorem d_Dc_misses_31 : decode b_Dc_misses 31 = .ok (.getfield 15, 3) := by decide +kernel
theorem d_Dc_misses_34 : decode b_Dc_misses 34 = .ok (.iload_n 3, 1) := by decide +kernel
theorem d_Dc_misses_35 : decode b_Dc_misses 35 = .ok (.iaload, 1) := by decide +kernel
theorem d_Dc_misses_36 : decode b_Dc_misses 36 = .ok (.iload_n 1, 1) := by decide +kernel
theorem d_Dc_misses_37 : decode b_Dc_misses 37 = .ok (.if_icmp .ne 29, 3) := by decide +kernel
theorem d_Dc_misses_40 : decode b_Dc_misses 40 = .ok (.aload_n 0, 1) := by decide +kernel
theorem d_Dc_misses_41 : decode b_Dc_misses 41 = .ok (.getfield 19, 3) := by decide +kernel
theorem d_Dc_misses_44 : decode b_Dc_misses 44 = .ok (.aload_n 0, 1) := by decide +kernel
theorem d_Dc_misses_45 : decode b_Dc_misses 45 = .ok (.getfield 15, 3) := by decide +kernel
theorem d_Dc_misses_48 : decode b_Dc_misses 48 = .ok (.iload_n 2, 1) := by decide +kernel
theorem d_Dc_misses_49 : decode b_Dc_misses 49 = .ok (.iaload, 1) := by decide +kernel
theorem d_Dc_misses_50 : decode b_Dc_misses 50 = .ok (.iload_n 1, 1) := by decide +kernel
theorem d_Dc_misses_51 : decode b_Dc_misses 51 = .ok (.if_icmp .ne 7, 3) := by decide +kernel
theorem d_Dc_misses_54 : decode b_Dc_misses 54 = .ok (.iload_n 2, 1) := by decide +kernel
theorem d_Dc_misses_55 : decode b_Dc_misses 55 = .ok (.goto 4, 3) := by decide +kernel
theorem d_Dc_misses_58 : decode b_Dc_misses 58 = .ok (.iload_n 3, 1) := by decide +kernel
theorem d_Dc_misses_59 : decode b_Dc_misses 59 = .ok (.aload_n 0, 1) := by decide +kernel
theorem d_Dc_misses_60 : decode b_Dc_misses 60 = .ok (.getfield 22, 3) := by decide +kernel
theorem d_Dc_misses_63 : decode b_Dc_misses 63 = .ok (.iastore, 1) := by decide +kernel
theorem d_Dc_misses_64 : decode b_Dc_misses 64 = .ok (.iconst 0, 1) := by decide +kernel
theorem d_Dc_misses_65 : decode b_Dc_misses 65 = .ok (.ireturn, 1) := by decide +kernel
theorem d_Dc_misses_66 : decode b_Dc_misses 66 = .ok (.aload_n 0, 1) := by decide +kernel
theorem d_Dc_misses_67 : decode b_Dc_misses 67 = .ok (.getfield 19, 3) := by decide +kernel
theorem d_Dc_misses_70 : decode b_Dc_misses 70 = .ok (.iload_n 2, 1) := by decide +kernel
theorem d_Dc_misses_71 : decode b_Dc_misses 71 = .ok (.iaload, 1) := by decide +kernel
theorem d_Dc_misses_72 : decode b_Dc_misses 72 = .ok (.aload_n 0, 1) := by decide +kernel
theorem d_Dc_misses_73 : decode b_Dc_misses 73 = .ok (.getfield 19, 3) := by decide +kernel
theorem d_Dc_misses_76 : decode b_Dc_misses 76 = .ok (.iload_n 3, 1) := by decide +kernel
theorem d_Dc_misses_77 : decode b_Dc_misses 77 = .ok (.iaload, 1) := by decide +kernel
theorem d_Dc_misses_78 : decode b_Dc_misses 78 = .ok (.if_icmp .gt 7, 3) := by decide +kernel
theorem d_Dc_misses_81 : decode b_Dc_misses 81 = .ok (.iload_n 2, 1) := by decide +kernel
theorem d_Dc_misses_82 : decode b_Dc_misses 82 = .ok (.goto 4, 3) := by decide +kernel
theorem d_Dc_misses_85 : decode b_Dc_misses 85 = .ok (.iload_n 3, 1) := by decide +kernel
theorem d_Dc_misses_86 : decode b_Dc_misses 86 = .ok (.istore 4, 2) := by decide +kernel
theorem d_Dc_misses_88 : decode b_Dc_misses 88 = .ok (.aload_n 0, 1) := by decide +kernel
theorem d_Dc_misses_89 : decode b_Dc_misses 89 = .ok (.getfield 15, 3) := by decide +kernel
theorem d_Dc_misses_92 : decode b_Dc_misses 92 = .ok (.iload 4, 2) := by decide +kernel
theorem d_Dc_misses_94 : decode b_Dc_misses 94 = .ok (.iload_n 1, 1) := by decide +kernel
theorem d_Dc_misses_95 : decode b_Dc_misses 95 = .ok (.iastore, 1) := by decide +kernel
theorem d_Dc_misses_96 : decode b_Dc_misses 96 = .ok (.aload_n 0, 1) := by decide +kernel
theorem d_Dc_misses_97 : decode b_Dc_misses 97 = .ok (.getfield 19, 3) := by decide +kernel
theorem d_Dc_misses_100 : decode b_Dc_misses 100 = .ok (.iload 4, 2) := by decide +kernel
theorem d_Dc_misses_102 : decode b_Dc_misses 102 = .ok (.aload_n 0, 1) := by decide +kernel
theorem d_Dc_misses_103 : decode b_Dc_misses 103 = .ok (.getfield 22, 3) := by decide +kernel
theorem d_Dc_misses_106 : decode b_Dc_misses 106 = .ok (.iastore, 1) := by decide +kernel
theorem d_Dc_misses_107 : decode b_Dc_misses 107 = .ok (.aload_n 0, 1) := by decide +kernel
theorem d_Dc_misses_108 : decode b_Dc_misses 108 = .ok (.dup, 1) := by decide +kernel
theorem d_Dc_misses_109 : decode b_Dc_misses 109 = .ok (.getfield 9, 3) := by decide +kernel
theorem d_Dc_misses_112 : decode b_Dc_misses 112 = .ok (.iconst 1, 1) := by decide +kernel
theorem d_Dc_misses_113 : decode b_Dc_misses 113 = .ok (.iadd, 1) := by decide +kernel
theorem d_Dc_misses_114 : decode b_Dc_misses 114 = .ok (.putfield 9, 3) := by decide +kernel
theorem d_Dc_misses_117 : decode b_Dc_misses 117 = .ok (.iconst 1, 1) := by decide +kernel
theorem d_Dc_misses_118 : decode b_Dc_misses 118 = .ok (.ireturn, 1) := by decide +kernel
theorem d_In_init_0 : decode b_In_init 0 = .ok (.aload_n 0, 1) := by decide +kernel
theorem d_In_init_1 : decode b_In_init 1 = .ok (.invokespecial 3, 3) := by decide +kernel
theorem d_In_init_4 : decode b_In_init 4 = .ok (.aload_n 0, 1) := by decide +kernel
theorem d_In_init_5 : decode b_In_init 5 = .ok (.iconst 0, 1) := by decide +kernel
theorem d_In_init_6 : decode b_In_init 6 = .ok (.putfield 9, 3) := by decide +kernel
theorem d_In_init_9 : decode b_In_init 9 = .ok (.aload_n 0, 1) := by decide +kernel
theorem d_In_init_10 : decode b_In_init 10 = .ok (.iconst 0, 1) := by decide +kernel
theorem d_In_init_11 : decode b_In_init 11 = .ok (.putfield 15, 3) := by decide +kernel
theorem d_In_init_14 : decode b_In_init 14 = .ok (.aload_n 0, 1) := by decide +kernel
theorem d_In_init_15 : decode b_In_init 15 = .ok (.iconst 0, 1) := by decide +kernel
theorem d_In_init_16 : decode b_In_init 16 = .ok (.putfield 18, 3) := by decide +kernel
theorem d_In_init_19 : decode b_In_init 19 = .ok (.aload_n 0, 1) := by decide +kernel
theorem d_In_init_20 : decode b_In_init 20 = .ok (.iconst 0, 1) := by decide +kernel
theorem d_In_init_21 : decode b_In_init 21 = .ok (.putfield 21, 3) := by decide +kernel
theorem d_In_init_24 : decode b_In_init 24 = .ok (.aload_n 0, 1) := by decide +kernel
theorem d_In_init_25 : decode b_In_init 25 = .ok (.iconst 0, 1) := by decide +kernel
theorem d_In_init_26 : decode b_In_init 26 = .ok (.putfield 24, 3) := by decide +kernel
theorem d_In_init_29 : decode b_In_init 29 = .ok (.aload_n 0, 1) := by decide +kernel
theorem d_In_init_30 : decode b_In_init 30 = .ok (.iconst (-1), 1) := by decide +kernel
theorem d_In_init_31 : decode b_In_init 31 = .ok (.putfield 27, 3) := by decide +kernel
theorem d_In_init_34 : decode b_In_init 34 = .ok (.aload_n 0, 1) := by decide +kernel
theorem d_In_init_35 : decode b_In_init 35 = .ok (.iconst (-1), 1) := by decide +kernel
theorem d_In_init_36 : decode b_In_init 36 = .ok (.putfield 30, 3) := by decide +kernel
theorem d_In_init_39 : decode b_In_init 39 = .ok (.aload_n 0, 1) := by decide +kernel
theorem d_In_init_40 : decode b_In_init 40 = .ok (.iconst (-1), 1) := by decide +kernel
theorem d_In_init_41 : decode b_In_init 41 = .ok (.putfield 33, 3) := by decide +kernel
theorem d_In_init_44 : decode b_In_init 44 = .ok (.return_, 1) := by decide +kernel
theorem d_In_become_0 : decode b_In_become 0 = .ok (.aload_n 0, 1) := by decide +kernel
theorem d_In_become_1 : decode b_In_become 1 = .ok (.iload_n 1, 1) := by decide +kernel
theorem d_In_become_2 : decode b_In_become 2 = .ok (.putfield 9, 3) := by decide +kernel
theorem d_In_become_5 : decode b_In_become 5 = .ok (.aload_n 0, 1) := by decide +kernel
theorem d_In_become_6 : decode b_In_become 6 = .ok (.iload_n 2, 1) := by decide +kernel
theorem d_In_become_7 : decode b_In_become 7 = .ok (.putfield 15, 3) := by decide +kernel
theorem d_In_become_10 : decode b_In_become 10 = .ok (.aload_n 0, 1) := by decide +kernel
theorem d_In_become_11 : decode b_In_become 11 = .ok (.iload_n 3, 1) := by decide +kernel
theorem d_In_become_12 : decode b_In_become 12 = .ok (.putfield 18, 3) := by decide +kernel
theorem d_In_become_15 : decode b_In_become 15 = .ok (.aload_n 0, 1) := by decide +kernel
theorem d_In_become_16 : decode b_In_become 16 = .ok (.iload 4, 2) := by decide +kernel
theorem d_In_become_18 : decode b_In_become 18 = .ok (.putfield 21, 3) := by decide +kernel
theorem d_In_become_21 : decode b_In_become 21 = .ok (.aload_n 0, 1) := by decide +kernel
theorem d_In_become_22 : decode b_In_become 22 = .ok (.iload 5, 2) := by decide +kernel
theorem d_In_become_24 : decode b_In_become 24 = .ok (.putfield 24, 3) := by decide +kernel
theorem d_In_become_27 : decode b_In_become 27 = .ok (.aload_n 0, 1) := by decide +kernel
theorem d_In_become_28 : decode b_In_become 28 = .ok (.getstatic 36, 3) := by decide +kernel
theorem d_In_become_31 : decode b_In_become 31 = .ok (.aload_n 0, 1) := by decide +kernel
theorem d_In_become_32 : decode b_In_become 32 = .ok (.getfield 9, 3) := by decide +kernel
theorem d_In_become_35 : decode b_In_become 35 = .ok (.iaload, 1) := by decide +kernel
theorem d_In_become_36 : decode b_In_become 36 = .ok (.aload_n 0, 1) := by decide +kernel
theorem d_In_become_37 : decode b_In_become 37 = .ok (.getfield 15, 3) := by decide +kernel
theorem d_In_become_40 : decode b_In_become 40 = .ok (.invokestatic 40, 3) := by decide +kernel
theorem d_In_become_43 : decode b_In_become 43 = .ok (.putfield 27, 3) := by decide +kernel
theorem d_In_become_46 : decode b_In_become 46 = .ok (.aload_n 0, 1) := by decide +kernel
theorem d_In_become_47 : decode b_In_become 47 = .ok (.getstatic 44, 3) := by decide +kernel
theorem d_In_become_50 : decode b_In_become 50 = .ok (.aload_n 0, 1) := by decide +kernel
theorem d_In_become_51 : decode b_In_become 51 = .ok (.getfield 9, 3) := by decide +kernel
theorem d_In_become_54 : decode b_In_become 54 = .ok (.iaload, 1) := by decide +kernel
theorem d_In_become_55 : decode b_In_become 55 = .ok (.aload_n 0, 1) := by decide +kernel
theorem d_In_become_56 : decode b_In_become 56 = .ok (.getfield 18, 3) := by decide +kernel
theorem d_In_become_59 : decode b_In_become 59 = .ok (.invokestatic 40, 3) := by decide +kernel
theorem d_In_become_62 : decode b_In_become 62 = .ok (.putfield 30, 3) := by decide +kernel
theorem d_In_become_65 : decode b_In_become 65 = .ok (.aload_n 0, 1) := by decide +kernel
theorem d_In_become_66 : decode b_In_become 66 = .ok (.getstatic 47, 3) := by decide +kernel
theorem d_In_become_69 : decode b_In_become 69 = .ok (.aload_n 0, 1) := by decide +kernel
theorem d_In_become_70 : decode b_In_become 70 = .ok (.getfield 9, 3) := by decide +kernel
theorem d_In_become_73 : decode b_In_become 73 = .ok (.iaload, 1) := by decide +kernel
theorem d_In_become_74 : decode b_In_become 74 = .ok (.aload_n 0, 1) := by decide +kernel
theorem d_In_become_75 : decode b_In_become 75 = .ok (.getfield 21, 3) := by decide +kernel
theorem d_In_become_78 : decode b_In_become 78 = .ok (.invokestatic 40, 3) := by decide +kernel
theorem d_In_become_81 : decode b_In_become 81 = .ok (.putfield 33, 3) := by decide +kernel
theorem d_In_become_84 : decode b_In_become 84 = .ok (.return_, 1) := by decide +kernel
theorem d_In_readsWhatIsWrittenBy_0 : decode b_In_readsWhatIsWrittenBy 0 = .ok (.aload_n 1, 1) := by decide +kernel
theorem d_In_readsWhatIsWrittenBy_1 : decode b_In_readsWhatIsWrittenBy 1 = .ok (.getfield 27, 3) := by decide +kernel
theorem d_In_readsWhatIsWrittenBy_4 : decode b_In_readsWhatIsWrittenBy 4 = .ok (.istore_n 2, 1) := by decide +kernel
theorem d_In_readsWhatIsWrittenBy_5 : decode b_In_readsWhatIsWrittenBy 5 = .ok (.iload_n 2, 1) := by decide +kernel
theorem d_In_readsWhatIsWrittenBy_6 : decode b_In_readsWhatIsWrittenBy 6 = .ok (.iconst (-1), 1) := by decide +kernel
theorem d_In_readsWhatIsWrittenBy_7 : decode b_In_readsWhatIsWrittenBy 7 = .ok (.if_icmp .eq 23, 3) := by decide +kernel
theorem d_In_readsWhatIsWrittenBy_10 : decode b_In_readsWhatIsWrittenBy 10 = .ok (.aload_n 0, 1) := by decide +kernel
theorem d_In_readsWhatIsWrittenBy_11 : decode b_In_readsWhatIsWrittenBy 11 = .ok (.getfield 30, 3) := by decide +kernel
theorem d_In_readsWhatIsWrittenBy_14 : decode b_In_readsWhatIsWrittenBy 14 = .ok (.iload_n 2, 1) := by decide +kernel
theorem d_In_readsWhatIsWrittenBy_15 : decode b_In_readsWhatIsWrittenBy 15 = .ok (.if_icmp .eq 11, 3) := by decide +kernel
theorem d_In_readsWhatIsWrittenBy_18 : decode b_In_readsWhatIsWrittenBy 18 = .ok (.aload_n 0, 1) := by decide +kernel
theorem d_In_readsWhatIsWrittenBy_19 : decode b_In_readsWhatIsWrittenBy 19 = .ok (.getfield 33, 3) := by decide +kernel
theorem d_In_readsWhatIsWrittenBy_22 : decode b_In_readsWhatIsWrittenBy 22 = .ok (.iload_n 2, 1) := by decide +kernel
theorem d_In_readsWhatIsWrittenBy_23 : decode b_In_readsWhatIsWrittenBy 23 = .ok (.if_icmp .ne 7, 3) := by decide +kernel
theorem d_In_readsWhatIsWrittenBy_26 : decode b_In_readsWhatIsWrittenBy 26 = .ok (.iconst 1, 1) := by decide +kernel
theorem d_In_readsWhatIsWrittenBy_27 : decode b_In_readsWhatIsWrittenBy 27 = .ok (.goto 4, 3) := by decide +kernel
theorem d_In_readsWhatIsWrittenBy_30 : decode b_In_readsWhatIsWrittenBy 30 = .ok (.iconst 0, 1) := by decide +kernel
theorem d_In_readsWhatIsWrittenBy_31 : decode b_In_readsWhatIsWrittenBy 31 = .ok (.ireturn, 1) := by decide +kernel
theorem d_In_mustStayBehind_0 : decode b_In_mustStayBehind 0 = .ok (.aload_n 0, 1) := by decide +kernel
theorem d_In_mustStayBehind_1 : decode b_In_mustStayBehind 1 = .ok (.getfield 27, 3) := by decide +kernel
theorem d_In_mustStayBehind_4 : decode b_In_mustStayBehind 4 = .ok (.iconst (-1), 1) := by decide +kernel
theorem d_In_mustStayBehind_5 : decode b_In_mustStayBehind 5 = .ok (.if_icmp .eq 18, 3) := by decide +kernel
theorem d_In_mustStayBehind_8 : decode b_In_mustStayBehind 8 = .ok (.aload_n 0, 1) := by decide +kernel
theorem d_In_mustStayBehind_9 : decode b_In_mustStayBehind 9 = .ok (.getfield 27, 3) := by decide +kernel
theorem d_In_mustStayBehind_12 : decode b_In_mustStayBehind 12 = .ok (.aload_n 1, 1) := by decide +kernel
theorem d_In_mustStayBehind_13 : decode b_In_mustStayBehind 13 = .ok (.getfield 27, 3) := by decide +kernel
theorem d_In_mustStayBehind_16 : decode b_In_mustStayBehind 16 = .ok (.if_icmp .ne 7, 3) := by decide +kernel
theorem d_In_mustStayBehind_19 : decode b_In_mustStayBehind 19 = .ok (.iconst 1, 1) := by decide +kernel
theorem d_In_mustStayBehind_20 : decode b_In_mustStayBehind 20 = .ok (.goto 4, 3) := by decide +kernel
theorem d_In_mustStayBehind_23 : decode b_In_mustStayBehind 23 = .ok (.iconst 0, 1) := by decide +kernel
theorem d_In_mustStayBehind_24 : decode b_In_mustStayBehind 24 = .ok (.istore_n 2, 1) := by decide +kernel
theorem d_In_mustStayBehind_25 : decode b_In_mustStayBehind 25 = .ok (.iload_n 2, 1) := by decide +kernel
theorem d_In_mustStayBehind_26 : decode b_In_mustStayBehind 26 = .ok (.ifCond .ne 33, 3) := by decide +kernel
theorem d_In_mustStayBehind_29 : decode b_In_mustStayBehind 29 = .ok (.aload_n 0, 1) := by decide +kernel
theorem d_In_mustStayBehind_30 : decode b_In_mustStayBehind 30 = .ok (.aload_n 1, 1) := by decide +kernel
theorem d_In_mustStayBehind_31 : decode b_In_mustStayBehind 31 = .ok (.invokevirtual 50, 3) := by decide +kernel
theorem d_In_mustStayBehind_34 : decode b_In_mustStayBehind 34 = .ok (.ifCond .ne 25, 3) := by decide +kernel
theorem d_In_mustStayBehind_37 : decode b_In_mustStayBehind 37 = .ok (.aload_n 1, 1) := by decide +kernel
theorem d_In_mustStayBehind_38 : decode b_In_mustStayBehind 38 = .ok (.aload_n 0, 1) := by decide +kernel
theorem d_In_mustStayBehind_39 : decode b_In_mustStayBehind 39 = .ok (.invokevirtual 50, 3) := by decide +kernel
theorem d_In_mustStayBehind_42 : decode b_In_mustStayBehind 42 = .ok (.ifCond .ne 17, 3) := by decide +kernel
theorem d_In_mustStayBehind_45 : decode b_In_mustStayBehind 45 = .ok (.aload_n 0, 1) := by decide +kernel
theorem d_In_mustStayBehind_46 : decode b_In_mustStayBehind 46 = .ok (.invokevirtual 54, 3) := by decide +kernel
theorem d_In_mustStayBehind_49 : decode b_In_mustStayBehind 49 = .ok (.ifCond .eq 14, 3) := by decide +kernel
theorem d_In_mustStayBehind_52 : decode b_In_mustStayBehind 52 = .ok (.aload_n 1, 1) := by decide +kernel
theorem d_In_mustStayBehind_53 : decode b_In_mustStayBehind 53 = .ok (.invokevirtual 54, 3) := by decide +kernel
theorem d_In_mustStayBehind_56 : decode b_In_mustStayBehind 56 = .ok (.ifCond .eq 7, 3) := by decide +kernel
theorem d_In_mustStayBehind_59 : decode b_In_mustStayBehind 59 = .ok (.iconst 1, 1) := by decide +kernel
theorem d_In_mustStayBehind_60 : decode b_In_mustStayBehind 60 = .ok (.goto 4, 3) := by decide +kernel
theorem d_In_mustStayBehind_63 : decode b_In_mustStayBehind 63 = .ok (.iconst 0, 1) := by decide +kernel
theorem d_In_mustStayBehind_64 : decode b_In_mustStayBehind 64 = .ok (.ireturn, 1) := by decide +kernel
theorem d_In_goesToMemory_0 : decode b_In_goesToMemory 0 = .ok (.aload_n 0, 1) := by decide +kernel
theorem d_In_goesToMemory_1 : decode b_In_goesToMemory 1 = .ok (.getfield 9, 3) := by decide +kernel
theorem d_In_goesToMemory_4 : decode b_In_goesToMemory 4 = .ok (.bipush 6, 2) := by decide +kernel
theorem d_In_goesToMemory_6 : decode b_In_goesToMemory 6 = .ok (.if_icmp .lt 16, 3) := by decide +kernel
theorem d_In_goesToMemory_9 : decode b_In_goesToMemory 9 = .ok (.aload_n 0, 1) := by decide +kernel
theorem d_In_goesToMemory_10 : decode b_In_goesToMemory 10 = .ok (.getfield 9, 3) := by decide +kernel
theorem d_In_goesToMemory_13 : decode b_In_goesToMemory 13 = .ok (.bipush 9, 2) := by decide +kernel
theorem d_In_goesToMemory_15 : decode b_In_goesToMemory 15 = .ok (.if_icmp .gt 7, 3) := by decide +kernel
theorem d_In_goesToMemory_18 : decode b_In_goesToMemory 18 = .ok (.iconst 1, 1) := by decide +kernel
theorem d_In_goesToMemory_19 : decode b_In_goesToMemory 19 = .ok (.goto 4, 3) := by decide +kernel
theorem d_In_goesToMemory_22 : decode b_In_goesToMemory 22 = .ok (.iconst 0, 1) := by decide +kernel
theorem d_In_goesToMemory_23 : decode b_In_goesToMemory 23 = .ok (.ireturn, 1) := by decide +kernel
theorem d_In_hasTarget_0 : decode b_In_hasTarget 0 = .ok (.aload_n 0, 1) := by decide +kernel
theorem d_In_hasTarget_1 : decode b_In_hasTarget 1 = .ok (.getfield 9, 3) := by decide +kernel
theorem d_In_hasTarget_4 : decode b_In_hasTarget 4 = .ok (.bipush 17, 2) := by decide +kernel
theorem d_In_hasTarget_6 : decode b_In_hasTarget 6 = .ok (.if_icmp .lt 7, 3) := by decide +kernel
theorem d_In_hasTarget_9 : decode b_In_hasTarget 9 = .ok (.iconst 1, 1) := by decide +kernel
theorem d_In_hasTarget_10 : decode b_In_hasTarget 10 = .ok (.goto 4, 3) := by decide +kernel
theorem d_In_hasTarget_13 : decode b_In_hasTarget 13 = .ok (.iconst 0, 1) := by decide +kernel
theorem d_In_hasTarget_14 : decode b_In_hasTarget 14 = .ok (.ireturn, 1) := by decide +kernel
theorem d_In_endsBlock_0 : decode b_In_endsBlock 0 = .ok (.aload_n 0, 1) := by decide +kernel
theorem d_In_endsBlock_1 : decode b_In_endsBlock 1 = .ok (.getfield 9, 3) := by decide +kernel
theorem d_In_endsBlock_4 : decode b_In_endsBlock 4 = .ok (.ifCond .eq 10, 3) := by decide +kernel
theorem d_In_endsBlock_7 : decode b_In_endsBlock 7 = .ok (.aload_n 0, 1) := by decide +kernel
theorem d_In_endsBlock_8 : decode b_In_endsBlock 8 = .ok (.invokevirtual 58, 3) := by decide +kernel
theorem d_In_endsBlock_11 : decode b_In_endsBlock 11 = .ok (.ifCond .eq 7, 3) := by decide +kernel
theorem d_In_endsBlock_14 : decode b_In_endsBlock 14 = .ok (.iconst 1, 1) := by decide +kernel
theorem d_In_endsBlock_15 : decode b_In_endsBlock 15 = .ok (.goto 4, 3) := by decide +kernel
theorem d_In_endsBlock_18 : decode b_In_endsBlock 18 = .ok (.iconst 0, 1) := by decide +kernel
theorem d_In_endsBlock_19 : decode b_In_endsBlock 19 = .ok (.ireturn, 1) := by decide +kernel
theorem d_In_target_0 : decode b_In_target 0 = .ok (.aload_n 0, 1) := by decide +kernel
theorem d_In_target_1 : decode b_In_target 1 = .ok (.getfield 24, 3) := by decide +kernel
theorem d_In_target_4 : decode b_In_target 4 = .ok (.bipush 24, 2) := by decide +kernel
theorem d_In_target_6 : decode b_In_target 6 = .ok (.invokestatic 61, 3) := by decide +kernel
theorem d_In_target_9 : decode b_In_target 9 = .ok (.ireturn, 1) := by decide +kernel
theorem d_In_latency_0 : decode b_In_latency 0 = .ok (.getstatic 66, 3) := by decide +kernel
theorem d_In_latency_3 : decode b_In_latency 3 = .ok (.aload_n 0, 1) := by decide +kernel
theorem d_In_latency_4 : decode b_In_latency 4 = .ok (.getfield 9, 3) := by decide +kernel
theorem d_In_latency_7 : decode b_In_latency 7 = .ok (.iaload, 1) := by decide +kernel
theorem d_In_latency_8 : decode b_In_latency 8 = .ok (.ireturn, 1) := by decide +kernel
theorem d_In_keepsItsTurn_0 : decode b_In_keepsItsTurn 0 = .ok (.aload_n 0, 1) := by decide +kernel
theorem d_In_keepsItsTurn_1 : decode b_In_keepsItsTurn 1 = .ok (.getfield 9, 3) := by decide +kernel
theorem d_In_keepsItsTurn_4 : decode b_In_keepsItsTurn 4 = .ok (.bipush 6, 2) := by decide +kernel
theorem d_In_keepsItsTurn_6 : decode b_In_keepsItsTurn 6 = .ok (.if_icmp .lt 16, 3) := by decide +kernel
theorem d_In_keepsItsTurn_9 : decode b_In_keepsItsTurn 9 = .ok (.aload_n 0, 1) := by decide +kernel
theorem d_In_keepsItsTurn_10 : decode b_In_keepsItsTurn 10 = .ok (.getfield 9, 3) := by decide +kernel
theorem d_In_keepsItsTurn_13 : decode b_In_keepsItsTurn 13 = .ok (.bipush 13, 2) := by decide +kernel
theorem d_In_keepsItsTurn_15 : decode b_In_keepsItsTurn 15 = .ok (.if_icmp .gt 7, 3) := by decide +kernel
theorem d_In_keepsItsTurn_18 : decode b_In_keepsItsTurn 18 = .ok (.iconst 1, 1) := by decide +kernel
theorem d_In_keepsItsTurn_19 : decode b_In_keepsItsTurn 19 = .ok (.goto 4, 3) := by decide +kernel
theorem d_In_keepsItsTurn_22 : decode b_In_keepsItsTurn 22 = .ok (.iconst 0, 1) := by decide +kernel
theorem d_In_keepsItsTurn_23 : decode b_In_keepsItsTurn 23 = .ok (.ireturn, 1) := by decide +kernel
theorem d_In_register_0 : decode b_In_register 0 = .ok (.iload_n 0, 1) := by decide +kernel
theorem d_In_register_1 : decode b_In_register 1 = .ok (.iconst 2, 1) := by decide +kernel
theorem d_In_register_2 : decode b_In_register 2 = .ok (.if_icmp .ne 10, 3) := by decide +kernel
theorem d_In_register_5 : decode b_In_register 5 = .ok (.bipush 8, 2) := by decide +kernel
theorem d_In_register_7 : decode b_In_register 7 = .ok (.iload_n 1, 1) := by decide +kernel
theorem d_In_register_8 : decode b_In_register 8 = .ok (.iconst 4, 1) := by decide +kernel
theorem d_In_register_9 : decode b_In_register 9 = .ok (.irem, 1) := by decide +kernel
theorem d_In_register_10 : decode b_In_register 10 = .ok (.iadd, 1) := by decide +kernel
theorem d_In_register_11 : decode b_In_register 11 = .ok (.ireturn, 1) := by decide +kernel
theorem d_In_register_12 : decode b_In_register 12 = .ok (.iload_n 0, 1) := by decide +kernel
theorem d_In_register_13 : decode b_In_register 13 = .ok (.iconst 1, 1) := by decide +kernel
theorem d_In_register_14 : decode b_In_register 14 = .ok (.if_icmp .ne 11, 3) := by decide +kernel
theorem d_In_register_17 : decode b_In_register 17 = .ok (.iload_n 1, 1) := by decide +kernel
theorem d_In_register_18 : decode b_In_register 18 = .ok (.ifCond .eq 7, 3) := by decide +kernel
theorem d_In_register_21 : decode b_In_register 21 = .ok (.iload_n 1, 1) := by decide +kernel
theorem d_In_register_22 : decode b_In_register 22 = .ok (.goto 4, 3) := by decide +kernel
theorem d_In_register_25 : decode b_In_register 25 = .ok (.iconst (-1), 1) := by decide +kernel
theorem d_In_register_26 : decode b_In_register 26 = .ok (.ireturn, 1) := by decide +kernel
theorem d_Pr_init_0 : decode b_Pr_init 0 = .ok (.aload_n 0, 1) := by decide +kernel
theorem d_Pr_init_1 : decode b_Pr_init 1 = .ok (.invokespecial 1, 3) := by decide +kernel
theorem d_Pr_init_4 : decode b_Pr_init 4 = .ok (.aload_n 0, 1) := by decide +kernel
theorem d_Pr_init_5 : decode b_Pr_init 5 = .ok (.iconst 0, 1) := by decide +kernel
theorem d_Pr_init_6 : decode b_Pr_init 6 = .ok (.putfield 7, 3) := by decide +kernel
theorem d_Pr_init_9 : decode b_Pr_init 9 = .ok (.aload_n 0, 1) := by decide +kernel
theorem d_Pr_init_10 : decode b_Pr_init 10 = .ok (.bipush 8, 2) := by decide +kernel
theorem d_Pr_init_12 : decode b_Pr_init 12 = .ok (.newarray .int, 2) := by decide +kernel
theorem d_Pr_init_14 : decode b_Pr_init 14 = .ok (.putfield 13, 3) := by decide +kernel
theorem d_Pr_init_17 : decode b_Pr_init 17 = .ok (.aload_n 0, 1) := by decide +kernel
theorem d_Pr_init_18 : decode b_Pr_init 18 = .ok (.invokevirtual 17, 3) := by decide +kernel
theorem d_Pr_init_21 : decode b_Pr_init 21 = .ok (.return_, 1) := by decide +kernel
theorem d_Pr_reset_0 : decode b_Pr_reset 0 = .ok (.aload_n 0, 1) := by decide +kernel
theorem d_Pr_reset_1 : decode b_Pr_reset 1 = .ok (.getfield 13, 3) := by decide +kernel
theorem d_Pr_reset_4 : decode b_Pr_reset 4 = .ok (.iconst 1, 1) := by decide +kernel
theorem d_Pr_reset_5 : decode b_Pr_reset 5 = .ok (.invokestatic 20, 3) := by decide +kernel
theorem d_Pr_reset_8 : decode b_Pr_reset 8 = .ok (.aload_n 0, 1) := by decide +kernel
theorem d_Pr_reset_9 : decode b_Pr_reset 9 = .ok (.iconst 0, 1) := by decide +kernel
theorem d_Pr_reset_10 : decode b_Pr_reset 10 = .ok (.putfield 7, 3) := by decide +kernel
theorem d_Pr_reset_13 : decode b_Pr_reset 13 = .ok (.return_, 1) := by decide +kernel
theorem d_Pr_guessesWrong_0 : decode b_Pr_guessesWrong 0 = .ok (.iload_n 1, 1) := by decide +kernel
theorem d_Pr_guessesWrong_1 : decode b_Pr_guessesWrong 1 = .ok (.bipush 8, 2) := by decide +kernel
theorem d_Pr_guessesWrong_3 : decode b_Pr_guessesWrong 3 = .ok (.irem, 1) := by decide +kernel
theorem d_Pr_guessesWrong_4 : decode b_Pr_guessesWrong 4 = .ok (.istore_n 3, 1) := by decide +kernel
theorem d_Pr_guessesWrong_5 : decode b_Pr_guessesWrong 5 = .ok (.aload_n 0, 1) := by decide +kernel
theorem d_Pr_guessesWrong_6 : decode b_Pr_guessesWrong 6 = .ok (.getfield 13, 3) := by decide +kernel
theorem d_Pr_guessesWrong_9 : decode b_Pr_guessesWrong 9 = .ok (.iload_n 3, 1) := by decide +kernel
theorem d_Pr_guessesWrong_10 : decode b_Pr_guessesWrong 10 = .ok (.iaload, 1) := by decide +kernel
theorem d_Pr_guessesWrong_11 : decode b_Pr_guessesWrong 11 = .ok (.iconst 2, 1) := by decide +kernel
theorem d_Pr_guessesWrong_12 : decode b_Pr_guessesWrong 12 = .ok (.if_icmp .lt 7, 3) := by decide +kernel
theorem d_Pr_guessesWrong_15 : decode b_Pr_guessesWrong 15 = .ok (.iconst 1, 1) := by decide +kernel
theorem d_Pr_guessesWrong_16 : decode b_Pr_guessesWrong 16 = .ok (.goto 4, 3) := by decide +kernel
theorem d_Pr_guessesWrong_19 : decode b_Pr_guessesWrong 19 = .ok (.iconst 0, 1) := by decide +kernel
theorem d_Pr_guessesWrong_20 : decode b_Pr_guessesWrong 20 = .ok (.iload_n 2, 1) := by decide +kernel
theorem d_Pr_guessesWrong_21 : decode b_Pr_guessesWrong 21 = .ok (.if_icmp .eq 7, 3) := by decide +kernel
theorem d_Pr_guessesWrong_24 : decode b_Pr_guessesWrong 24 = .ok (.iconst 1, 1) := by decide +kernel
theorem d_Pr_guessesWrong_25 : decode b_Pr_guessesWrong 25 = .ok (.goto 4, 3) := by decide +kernel
theorem d_Pr_guessesWrong_28 : decode b_Pr_guessesWrong 28 = .ok (.iconst 0, 1) := by decide +kernel
theorem d_Pr_guessesWrong_29 : decode b_Pr_guessesWrong 29 = .ok (.istore 4, 2) := by decide +kernel
theorem d_Pr_guessesWrong_31 : decode b_Pr_guessesWrong 31 = .ok (.aload_n 0, 1) := by decide +kernel
theorem d_Pr_guessesWrong_32 : decode b_Pr_guessesWrong 32 = .ok (.getfield 13, 3) := by decide +kernel
theorem d_Pr_guessesWrong_35 : decode b_Pr_guessesWrong 35 = .ok (.iload_n 3, 1) := by decide +kernel
theorem d_Pr_guessesWrong_36 : decode b_Pr_guessesWrong 36 = .ok (.iload_n 2, 1) := by decide +kernel
theorem d_Pr_guessesWrong_37 : decode b_Pr_guessesWrong 37 = .ok (.ifCond .eq 18, 3) := by decide +kernel
theorem d_Pr_guessesWrong_40 : decode b_Pr_guessesWrong 40 = .ok (.aload_n 0, 1) := by decide +kernel
theorem d_Pr_guessesWrong_41 : decode b_Pr_guessesWrong 41 = .ok (.getfield 13, 3) := by decide +kernel
theorem d_Pr_guessesWrong_44 : decode b_Pr_guessesWrong 44 = .ok (.iload_n 3, 1) := by decide +kernel
theorem d_Pr_guessesWrong_45 : decode b_Pr_guessesWrong 45 = .ok (.iaload, 1) := by decide +kernel
theorem d_Pr_guessesWrong_46 : decode b_Pr_guessesWrong 46 = .ok (.iconst 1, 1) := by decide +kernel
theorem d_Pr_guessesWrong_47 : decode b_Pr_guessesWrong 47 = .ok (.iadd, 1) := by decide +kernel
theorem d_Pr_guessesWrong_48 : decode b_Pr_guessesWrong 48 = .ok (.iconst 3, 1) := by decide +kernel
theorem d_Pr_guessesWrong_49 : decode b_Pr_guessesWrong 49 = .ok (.invokestatic 26, 3) := by decide +kernel
theorem d_Pr_guessesWrong_52 : decode b_Pr_guessesWrong 52 = .ok (.goto 15, 3) := by decide +kernel
theorem d_Pr_guessesWrong_55 : decode b_Pr_guessesWrong 55 = .ok (.aload_n 0, 1) := by decide +kernel
theorem d_Pr_guessesWrong_56 : decode b_Pr_guessesWrong 56 = .ok (.getfield 13, 3) := by decide +kernel
theorem d_Pr_guessesWrong_59 : decode b_Pr_guessesWrong 59 = .ok (.iload_n 3, 1) := by decide +kernel
theorem d_Pr_guessesWrong_60 : decode b_Pr_guessesWrong 60 = .ok (.iaload, 1) := by decide +kernel
theorem d_Pr_guessesWrong_61 : decode b_Pr_guessesWrong 61 = .ok (.iconst 1, 1) := by decide +kernel
theorem d_Pr_guessesWrong_62 : decode b_Pr_guessesWrong 62 = .ok (.isub, 1) := by decide +kernel
theorem d_Pr_guessesWrong_63 : decode b_Pr_guessesWrong 63 = .ok (.iconst 0, 1) := by decide +kernel
theorem d_Pr_guessesWrong_64 : decode b_Pr_guessesWrong 64 = .ok (.invokestatic 32, 3) := by decide +kernel
theorem d_Pr_guessesWrong_67 : decode b_Pr_guessesWrong 67 = .ok (.iastore, 1) := by decide +kernel
theorem d_Pr_guessesWrong_68 : decode b_Pr_guessesWrong 68 = .ok (.iload 4, 2) := by decide +kernel
theorem d_Pr_guessesWrong_70 : decode b_Pr_guessesWrong 70 = .ok (.ifCond .eq 13, 3) := by decide +kernel
theorem d_Pr_guessesWrong_73 : decode b_Pr_guessesWrong 73 = .ok (.aload_n 0, 1) := by decide +kernel
theorem d_Pr_guessesWrong_74 : decode b_Pr_guessesWrong 74 = .ok (.dup, 1) := by decide +kernel
theorem d_Pr_guessesWrong_75 : decode b_Pr_guessesWrong 75 = .ok (.getfield 7, 3) := by decide +kernel
theorem d_Pr_guessesWrong_78 : decode b_Pr_guessesWrong 78 = .ok (.iconst 1, 1) := by decide +kernel
theorem d_Pr_guessesWrong_79 : decode b_Pr_guessesWrong 79 = .ok (.iadd, 1) := by decide +kernel
theorem d_Pr_guessesWrong_80 : decode b_Pr_guessesWrong 80 = .ok (.putfield 7, 3) := by decide +kernel
theorem d_Pr_guessesWrong_83 : decode b_Pr_guessesWrong 83 = .ok (.iload 4, 2) := by decide +kernel
theorem d_Pr_guessesWrong_85 : decode b_Pr_guessesWrong 85 = .ok (.ireturn, 1) := by decide +kernel
theorem d_Sc_init_0 : decode b_Sc_init 0 = .ok (.aload_n 0, 1) := by decide +kernel
theorem d_Sc_init_1 : decode b_Sc_init 1 = .ok (.invokespecial 3, 3) := by decide +kernel
theorem d_Sc_init_4 : decode b_Sc_init 4 = .ok (.aload_n 0, 1) := by decide +kernel
theorem d_Sc_init_5 : decode b_Sc_init 5 = .ok (.bipush 24, 2) := by decide +kernel
theorem d_Sc_init_7 : decode b_Sc_init 7 = .ok (.anewarray 9, 3) := by decide +kernel
theorem d_Sc_init_10 : decode b_Sc_init 10 = .ok (.putfield 11, 3) := by decide +kernel
theorem d_Sc_init_13 : decode b_Sc_init 13 = .ok (.aload_n 0, 1) := by decide +kernel
theorem d_Sc_init_14 : decode b_Sc_init 14 = .ok (.bipush 24, 2) := by decide +kernel
theorem d_Sc_init_16 : decode b_Sc_init 16 = .ok (.newarray .boolean, 2) := by decide +kernel
theorem d_Sc_init_18 : decode b_Sc_init 18 = .ok (.putfield 17, 3) := by decide +kernel
theorem d_Sc_init_21 : decode b_Sc_init 21 = .ok (.aload_n 0, 1) := by decide +kernel
theorem d_Sc_init_22 : decode b_Sc_init 22 = .ok (.bipush 24, 2) := by decide +kernel
theorem d_Sc_init_24 : decode b_Sc_init 24 = .ok (.newarray .int, 2) := by decide +kernel
theorem d_Sc_init_26 : decode b_Sc_init 26 = .ok (.putfield 21, 3) := by decide +kernel
theorem d_Sc_init_29 : decode b_Sc_init 29 = .ok (.aload_n 0, 1) := by decide +kernel
theorem d_Sc_init_30 : decode b_Sc_init 30 = .ok (.bipush 24, 2) := by decide +kernel
theorem d_Sc_init_32 : decode b_Sc_init 32 = .ok (.newarray .int, 2) := by decide +kernel
theorem d_Sc_init_34 : decode b_Sc_init 34 = .ok (.putfield 25, 3) := by decide +kernel
theorem d_Sc_init_37 : decode b_Sc_init 37 = .ok (.return_, 1) := by decide +kernel
theorem d_Sc_reorder_0 : decode b_Sc_reorder 0 = .ok (.iconst 0, 1) := by decide +kernel
theorem d_Sc_reorder_1 : decode b_Sc_reorder 1 = .ok (.istore_n 2, 1) := by decide +kernel
theorem d_Sc_reorder_2 : decode b_Sc_reorder 2 = .ok (.iload_n 2, 1) := by decide +kernel
theorem d_Sc_reorder_3 : decode b_Sc_reorder 3 = .ok (.bipush 24, 2) := by decide +kernel
theorem d_Sc_reorder_5 : decode b_Sc_reorder 5 = .ok (.if_icmp .ge 18, 3) := by decide +kernel
theorem d_Sc_reorder_8 : decode b_Sc_reorder 8 = .ok (.aload_n 0, 1) := by decide +kernel
theorem d_Sc_reorder_9 : decode b_Sc_reorder 9 = .ok (.getfield 11, 3) := by decide +kernel
theorem d_Sc_reorder_12 : decode b_Sc_reorder 12 = .ok (.iload_n 2, 1) := by decide +kernel
theorem d_Sc_reorder_13 : decode b_Sc_reorder 13 = .ok (.aload_n 1, 1) := by decide +kernel
theorem d_Sc_reorder_14 : decode b_Sc_reorder 14 = .ok (.iload_n 2, 1) := by decide +kernel
theorem d_Sc_reorder_15 : decode b_Sc_reorder 15 = .ok (.aaload, 1) := by decide +kernel
theorem d_Sc_reorder_16 : decode b_Sc_reorder 16 = .ok (.aastore, 1) := by decide +kernel
theorem d_Sc_reorder_17 : decode b_Sc_reorder 17 = .ok (.iinc 2 1, 3) := by decide +kernel
theorem d_Sc_reorder_20 : decode b_Sc_reorder 20 = .ok (.goto (-18), 3) := by decide +kernel
theorem d_Sc_reorder_23 : decode b_Sc_reorder 23 = .ok (.aload_n 0, 1) := by decide +kernel
theorem d_Sc_reorder_24 : decode b_Sc_reorder 24 = .ok (.invokevirtual 28, 3) := by decide +kernel
theorem d_Sc_reorder_27 : decode b_Sc_reorder 27 = .ok (.iconst 0, 1) := by decide +kernel
theorem d_Sc_reorder_28 : decode b_Sc_reorder 28 = .ok (.istore_n 2, 1) := by decide +kernel
theorem d_Sc_reorder_29 : decode b_Sc_reorder 29 = .ok (.iconst 0, 1) := by decide +kernel
theorem d_Sc_reorder_30 : decode b_Sc_reorder 30 = .ok (.istore_n 3, 1) := by decide +kernel
theorem d_Sc_reorder_31 : decode b_Sc_reorder 31 = .ok (.iload_n 3, 1) := by decide +kernel
theorem d_Sc_reorder_32 : decode b_Sc_reorder 32 = .ok (.bipush 24, 2) := by decide +kernel
theorem d_Sc_reorder_34 : decode b_Sc_reorder 34 = .ok (.if_icmp .ge 32, 3) := by decide +kernel
theorem d_Sc_reorder_37 : decode b_Sc_reorder 37 = .ok (.aload_n 0, 1) := by decide +kernel
theorem d_Sc_reorder_38 : decode b_Sc_reorder 38 = .ok (.getfield 17, 3) := by decide +kernel
theorem d_Sc_reorder_41 : decode b_Sc_reorder 41 = .ok (.iload_n 3, 1) := by decide +kernel
theorem d_Sc_reorder_42 : decode b_Sc_reorder 42 = .ok (.baload, 1) := by decide +kernel
theorem d_Sc_reorder_43 : decode b_Sc_reorder 43 = .ok (.ifCond .eq 17, 3) := by decide +kernel
theorem d_Sc_reorder_46 : decode b_Sc_reorder 46 = .ok (.iload_n 2, 1) := by decide +kernel
theorem d_Sc_reorder_47 : decode b_Sc_reorder 47 = .ok (.aload_n 0, 1) := by decide +kernel
theorem d_Sc_reorder_48 : decode b_Sc_reorder 48 = .ok (.aload_n 1, 1) := by decide +kernel
theorem d_Sc_reorder_49 : decode b_Sc_reorder 49 = .ok (.iload_n 3, 1) := by decide +kernel
theorem d_Sc_reorder_50 : decode b_Sc_reorder 50 = .ok (.aload_n 0, 1) := by decide +kernel
theorem d_Sc_reorder_51 : decode b_Sc_reorder 51 = .ok (.iload_n 3, 1) := by decide +kernel
theorem d_Sc_reorder_52 : decode b_Sc_reorder 52 = .ok (.invokevirtual 31, 3) := by decide +kernel
theorem d_Sc_reorder_55 : decode b_Sc_reorder 55 = .ok (.invokevirtual 35, 3) := by decide +kernel
theorem d_Sc_reorder_58 : decode b_Sc_reorder 58 = .ok (.iadd, 1) := by decide +kernel
theorem d_Sc_reorder_59 : decode b_Sc_reorder 59 = .ok (.istore_n 2, 1) := by decide +kernel
theorem d_Sc_reorder_60 : decode b_Sc_reorder 60 = .ok (.iinc 3 1, 3) := by decide +kernel
theorem d_Sc_reorder_63 : decode b_Sc_reorder 63 = .ok (.goto (-32), 3) := by decide +kernel
theorem d_Sc_reorder_66 : decode b_Sc_reorder 66 = .ok (.iload_n 2, 1) := by decide +kernel
theorem d_Sc_reorder_67 : decode b_Sc_reorder 67 = .ok (.ireturn, 1) := by decide +kernel
theorem d_Sc_findLeaders_0 : decode b_Sc_findLeaders 0 = .ok (.iconst 0, 1) := by decide +kernel
theorem d_Sc_findLeaders_1 : decode b_Sc_findLeaders 1 = .ok (.istore_n 1, 1) := by decide +kernel
theorem d_Sc_findLeaders_2 : decode b_Sc_findLeaders 2 = .ok (.iload_n 1, 1) := by decide +kernel
theorem d_Sc_findLeaders_3 : decode b_Sc_findLeaders 3 = .ok (.bipush 24, 2) := by decide +kernel
theorem d_Sc_findLeaders_5 : decode b_Sc_findLeaders 5 = .ok (.if_icmp .ge 38, 3) := by decide +kernel
theorem d_Sc_findLeaders_8 : decode b_Sc_findLeaders 8 = .ok (.aload_n 0, 1) := by decide +kernel
theorem d_Sc_findLeaders_9 : decode b_Sc_findLeaders 9 = .ok (.getfield 17, 3) := by decide +kernel
theorem d_Sc_findLeaders_12 : decode b_Sc_findLeaders 12 = .ok (.iload_n 1, 1) := by decide +kernel
theorem d_Sc_findLeaders_13 : decode b_Sc_findLeaders 13 = .ok (.iload_n 1, 1) := by decide +kernel
theorem d_Sc_findLeaders_14 : decode b_Sc_findLeaders 14 = .ok (.ifCond .eq 17, 3) := by decide +kernel
theorem d_Sc_findLeaders_17 : decode b_Sc_findLeaders 17 = .ok (.aload_n 0, 1) := by decide +kernel
theorem d_Sc_findLeaders_18 : decode b_Sc_findLeaders 18 = .ok (.getfield 11, 3) := by decide +kernel
theorem d_Sc_findLeaders_21 : decode b_Sc_findLeaders 21 = .ok (.iload_n 1, 1) := by decide +kernel
theorem d_Sc_findLeaders_22 : decode b_Sc_findLeaders 22 = .ok (.iconst 1, 1) := by decide +kernel
theorem d_Sc_findLeaders_23 : decode b_Sc_findLeaders 23 = .ok (.isub, 1) := by decide +kernel
theorem d_Sc_findLeaders_24 : decode b_Sc_findLeaders 24 = .ok (.aaload, 1) := by decide +kernel
theorem d_Sc_findLeaders_25 : decode b_Sc_findLeaders 25 = .ok (.invokevirtual 39, 3) := by decide +kernel
theorem d_Sc_findLeaders_28 : decode b_Sc_findLeaders 28 = .ok (.ifCond .eq 7, 3) := by decide +kernel
theorem d_Sc_findLeaders_31 : decode b_Sc_findLeaders 31 = .ok (.iconst 1, 1) := by decide +kernel
theorem d_Sc_findLeaders_32 : decode b_Sc_findLeaders 32 = .ok (.goto 4, 3) := by decide +kernel
theorem d_Sc_findLeaders_35 : decode b_Sc_findLeaders 35 = .ok (.iconst 0, 1) := by decide +kernel
theorem d_Sc_findLeaders_36 : decode b_Sc_findLeaders 36 = .ok (.bastore, 1) := by decide +kernel
theorem d_Sc_findLeaders_37 : decode b_Sc_findLeaders 37 = .ok (.iinc 1 1, 3) := by decide +kernel
theorem d_Sc_findLeaders_40 : decode b_Sc_findLeaders 40 = .ok (.goto (-38), 3) := by decide +kernel
theorem d_Sc_findLeaders_43 : decode b_Sc_findLeaders 43 = .ok (.iconst 0, 1) := by decide +kernel
theorem d_Sc_findLeaders_44 : decode b_Sc_findLeaders 44 = .ok (.istore_n 1, 1) := by decide +kernel
theorem d_Sc_findLeaders_45 : decode b_Sc_findLeaders 45 = .ok (.iload_n 1, 1) := by decide +kernel
theorem d_Sc_findLeaders_46 : decode b_Sc_findLeaders 46 = .ok (.bipush 24, 2) := by decide +kernel
theorem d_Sc_findLeaders_48 : decode b_Sc_findLeaders 48 = .ok (.if_icmp .ge 36, 3) := by decide +kernel
theorem d_Sc_findLeaders_51 : decode b_Sc_findLeaders 51 = .ok (.aload_n 0, 1) := by decide +kernel
theorem d_Sc_findLeaders_52 : decode b_Sc_findLeaders 52 = .ok (.getfield 11, 3) := by decide +kernel
theorem d_Sc_findLeaders_55 : decode b_Sc_findLeaders 55 = .ok (.iload_n 1, 1) := by decide +kernel
theorem d_Sc_findLeaders_56 : decode b_Sc_findLeaders 56 = .ok (.aaload, 1) := by decide +kernel
theorem d_Sc_findLeaders_57 : decode b_Sc_findLeaders 57 = .ok (.invokevirtual 43, 3) := by decide +kernel
theorem d_Sc_findLeaders_60 : decode b_Sc_findLeaders 60 = .ok (.ifCond .eq 18, 3) := by decide +kernel
theorem d_Sc_findLeaders_63 : decode b_Sc_findLeaders 63 = .ok (.aload_n 0, 1) := by decide +kernel
theorem d_Sc_findLeaders_64 : decode b_Sc_findLeaders 64 = .ok (.getfield 17, 3) := by decide +kernel
theorem d_Sc_findLeaders_67 : decode b_Sc_findLeaders 67 = .ok (.aload_n 0, 1) := by decide +kernel
theorem d_Sc_findLeaders_68 : decode b_Sc_findLeaders 68 = .ok (.getfield 11, 3) := by decide +kernel
theorem d_Sc_findLeaders_71 : decode b_Sc_findLeaders 71 = .ok (.iload_n 1, 1) := by decide +kernel
theorem d_Sc_findLeaders_72 : decode b_Sc_findLeaders 72 = .ok (.aaload, 1) := by decide +kernel
theorem d_Sc_findLeaders_73 : decode b_Sc_findLeaders 73 = .ok (.invokevirtual 46, 3) := by decide +kernel
theorem d_Sc_findLeaders_76 : decode b_Sc_findLeaders 76 = .ok (.iconst 1, 1) := by decide +kernel
theorem d_Sc_findLeaders_77 : decode b_Sc_findLeaders 77 = .ok (.bastore, 1) := by decide +kernel
theorem d_Sc_findLeaders_78 : decode b_Sc_findLeaders 78 = .ok (.iinc 1 1, 3) := by decide +kernel
theorem d_Sc_findLeaders_81 : decode b_Sc_findLeaders 81 = .ok (.goto (-36), 3) := by decide +kernel
theorem d_Sc_findLeaders_84 : decode b_Sc_findLeaders 84 = .ok (.return_, 1) := by decide +kernel
theorem d_Sc_endOfBlock_0 : decode b_Sc_endOfBlock 0 = .ok (.iload_n 1, 1) := by decide +kernel
theorem d_Sc_endOfBlock_1 : decode b_Sc_endOfBlock 1 = .ok (.istore_n 2, 1) := by decide +kernel
theorem d_Sc_endOfBlock_2 : decode b_Sc_endOfBlock 2 = .ok (.iload_n 2, 1) := by decide +kernel
theorem d_Sc_endOfBlock_3 : decode b_Sc_endOfBlock 3 = .ok (.bipush 24, 2) := by decide +kernel
theorem d_Sc_endOfBlock_5 : decode b_Sc_endOfBlock 5 = .ok (.if_icmp .ge 35, 3) := by decide +kernel
theorem d_Sc_endOfBlock_8 : decode b_Sc_endOfBlock 8 = .ok (.aload_n 0, 1) := by decide +kernel
theorem d_Sc_endOfBlock_9 : decode b_Sc_endOfBlock 9 = .ok (.getfield 11, 3) := by decide +kernel
theorem d_Sc_endOfBlock_12 : decode b_Sc_endOfBlock 12 = .ok (.iload_n 2, 1) := by decide +kernel
theorem d_Sc_endOfBlock_13 : decode b_Sc_endOfBlock 13 = .ok (.aaload, 1) := by decide +kernel
theorem d_Sc_endOfBlock_14 : decode b_Sc_endOfBlock 14 = .ok (.invokevirtual 39, 3) := by decide +kernel
theorem d_Sc_endOfBlock_17 : decode b_Sc_endOfBlock 17 = .ok (.ifCond .ne 23, 3) := by decide +kernel
theorem d_Sc_endOfBlock_20 : decode b_Sc_endOfBlock 20 = .ok (.iload_n 2, 1) := by decide +kernel
theorem d_Sc_endOfBlock_21 : decode b_Sc_endOfBlock 21 = .ok (.iload_n 1, 1) := by decide +kernel
theorem d_Sc_endOfBlock_22 : decode b_Sc_endOfBlock 22 = .ok (.if_icmp .eq 12, 3) := by decide +kernel
theorem d_Sc_endOfBlock_25 : decode b_Sc_endOfBlock 25 = .ok (.aload_n 0, 1) := by decide +kernel
theorem d_Sc_endOfBlock_26 : decode b_Sc_endOfBlock 26 = .ok (.getfield 17, 3) := by decide +kernel
theorem d_Sc_endOfBlock_29 : decode b_Sc_endOfBlock 29 = .ok (.iload_n 2, 1) := by decide +kernel
theorem d_Sc_endOfBlock_30 : decode b_Sc_endOfBlock 30 = .ok (.baload, 1) := by decide +kernel
theorem d_Sc_endOfBlock_31 : decode b_Sc_endOfBlock 31 = .ok (.ifCond .ne 9, 3) := by decide +kernel
theorem d_Sc_endOfBlock_34 : decode b_Sc_endOfBlock 34 = .ok (.iinc 2 1, 3) := by decide +kernel
theorem d_Sc_endOfBlock_37 : decode b_Sc_endOfBlock 37 = .ok (.goto (-35), 3) := by decide +kernel
theorem d_Sc_endOfBlock_40 : decode b_Sc_endOfBlock 40 = .ok (.iload_n 2, 1) := by decide +kernel
theorem d_Sc_endOfBlock_41 : decode b_Sc_endOfBlock 41 = .ok (.ireturn, 1) := by decide +kernel
theorem d_Sc_reorderBlock_0 : decode b_Sc_reorderBlock 0 = .ok (.aload_n 0, 1) := by decide +kernel
theorem d_Sc_reorderBlock_1 : decode b_Sc_reorderBlock 1 = .ok (.iload_n 2, 1) := by decide +kernel
theorem d_Sc_reorderBlock_2 : decode b_Sc_reorderBlock 2 = .ok (.iload_n 3, 1) := by decide +kernel
theorem d_Sc_reorderBlock_3 : decode b_Sc_reorderBlock 3 = .ok (.invokevirtual 50, 3) := by decide +kernel
theorem d_Sc_reorderBlock_6 : decode b_Sc_reorderBlock 6 = .ok (.iconst 0, 1) := by decide +kernel
theorem d_Sc_reorderBlock_7 : decode b_Sc_reorderBlock 7 = .ok (.istore 4, 2) := by decide +kernel
theorem d_Sc_reorderBlock_9 : decode b_Sc_reorderBlock 9 = .ok (.iload_n 2, 1) := by decide +kernel
theorem d_Sc_reorderBlock_10 : decode b_Sc_reorderBlock 10 = .ok (.istore 5, 2) := by decide +kernel
theorem d_Sc_reorderBlock_12 : decode b_Sc_reorderBlock 12 = .ok (.iload 5, 2) := by decide +kernel
theorem d_Sc_reorderBlock_14 : decode b_Sc_reorderBlock 14 = .ok (.iload_n 3, 1) := by decide +kernel
theorem d_Sc_reorderBlock_15 : decode b_Sc_reorderBlock 15 = .ok (.if_icmp .ge 18, 3) := by decide +kernel
theorem d_Sc_reorderBlock_18 : decode b_Sc_reorderBlock 18 = .ok (.iload 4, 2) := by decide +kernel
theorem d_Sc_reorderBlock_20 : decode b_Sc_reorderBlock 20 = .ok (.iconst 1, 1) := by decide +kernel
theorem d_Sc_reorderBlock_21 : decode b_Sc_reorderBlock 21 = .ok (.iload 5, 2) := by decide +kernel
theorem d_Sc_reorderBlock_23 : decode b_Sc_reorderBlock 23 = .ok (.ishl, 1) := by decide +kernel
theorem d_Sc_reorderBlock_24 : decode b_Sc_reorderBlock 24 = .ok (.ior, 1) := by decide +kernel
theorem d_Sc_reorderBlock_25 : decode b_Sc_reorderBlock 25 = .ok (.istore 4, 2) := by decide +kernel
theorem d_Sc_reorderBlock_27 : decode b_Sc_reorderBlock 27 = .ok (.iinc 5 1, 3) := by decide +kernel
theorem d_Sc_reorderBlock_30 : decode b_Sc_reorderBlock 30 = .ok (.goto (-18), 3) := by decide +kernel
theorem d_Sc_reorderBlock_33 : decode b_Sc_reorderBlock 33 = .ok (.iconst 0, 1) := by decide +kernel
theorem d_Sc_reorderBlock_34 : decode b_Sc_reorderBlock 34 = .ok (.istore 5, 2) := by decide +kernel
theorem d_Sc_reorderBlock_36 : decode b_Sc_reorderBlock 36 = .ok (.iload_n 2, 1) := by decide +kernel
theorem d_Sc_reorderBlock_37 : decode b_Sc_reorderBlock 37 = .ok (.istore 6, 2) := by decide +kernel
theorem d_Sc_reorderBlock_39 : decode b_Sc_reorderBlock 39 = .ok (.iload 6, 2) := by decide +kernel
theorem d_Sc_reorderBlock_41 : decode b_Sc_reorderBlock 41 = .ok (.iload_n 3, 1) := by decide +kernel
theorem d_Sc_reorderBlock_42 : decode b_Sc_reorderBlock 42 = .ok (.if_icmp .ge 51, 3) := by decide +kernel
theorem d_Sc_reorderBlock_45 : decode b_Sc_reorderBlock 45 = .ok (.aload_n 0, 1) := by decide +kernel
theorem d_Sc_reorderBlock_46 : decode b_Sc_reorderBlock 46 = .ok (.iload_n 2, 1) := by decide +kernel
theorem d_Sc_reorderBlock_47 : decode b_Sc_reorderBlock 47 = .ok (.iload_n 3, 1) := by decide +kernel
theorem d_Sc_reorderBlock_48 : decode b_Sc_reorderBlock 48 = .ok (.iload 4, 2) := by decide +kernel
theorem d_Sc_reorderBlock_50 : decode b_Sc_reorderBlock 50 = .ok (.invokevirtual 54, 3) := by decide +kernel
theorem d_Sc_reorderBlock_53 : decode b_Sc_reorderBlock 53 = .ok (.istore 7, 2) := by decide +kernel
theorem d_Sc_reorderBlock_55 : decode b_Sc_reorderBlock 55 = .ok (.iload 4, 2) := by decide +kernel
theorem d_Sc_reorderBlock_57 : decode b_Sc_reorderBlock 57 = .ok (.iconst 1, 1) := by decide +kernel
theorem d_Sc_reorderBlock_58 : decode b_Sc_reorderBlock 58 = .ok (.iload 7, 2) := by decide +kernel
theorem d_Sc_reorderBlock_60 : decode b_Sc_reorderBlock 60 = .ok (.ishl, 1) := by decide +kernel
theorem d_Sc_reorderBlock_61 : decode b_Sc_reorderBlock 61 = .ok (.iconst (-1), 1) := by decide +kernel
theorem d_Sc_reorderBlock_62 : decode b_Sc_reorderBlock 62 = .ok (.ixor, 1) := by decide +kernel
theorem d_Sc_reorderBlock_63 : decode b_Sc_reorderBlock 63 = .ok (.iand, 1) := by decide +kernel
theorem d_Sc_reorderBlock_64 : decode b_Sc_reorderBlock 64 = .ok (.istore 4, 2) := by decide +kernel
theorem d_Sc_reorderBlock_66 : decode b_Sc_reorderBlock 66 = .ok (.aload_n 1, 1) := by decide +kernel
theorem d_Sc_reorderBlock_67 : decode b_Sc_reorderBlock 67 = .ok (.iload 6, 2) := by decide +kernel
theorem d_Sc_reorderBlock_69 : decode b_Sc_reorderBlock 69 = .ok (.aload_n 0, 1) := by decide +kernel
theorem d_Sc_reorderBlock_70 : decode b_Sc_reorderBlock 70 = .ok (.getfield 11, 3) := by decide +kernel
theorem d_Sc_reorderBlock_73 : decode b_Sc_reorderBlock 73 = .ok (.iload 7, 2) := by decide +kernel
theorem d_Sc_reorderBlock_75 : decode b_Sc_reorderBlock 75 = .ok (.aaload, 1) := by decide +kernel
theorem d_Sc_reorderBlock_76 : decode b_Sc_reorderBlock 76 = .ok (.aastore, 1) := by decide +kernel
theorem d_Sc_reorderBlock_77 : decode b_Sc_reorderBlock 77 = .ok (.iload 7, 2) := by decide +kernel
theorem d_Sc_reorderBlock_79 : decode b_Sc_reorderBlock 79 = .ok (.iload 6, 2) := by decide +kernel
theorem d_Sc_reorderBlock_81 : decode b_Sc_reorderBlock 81 = .ok (.if_icmp .eq 6, 3) := by decide +kernel
theorem d_Sc_reorderBlock_84 : decode b_Sc_reorderBlock 84 = .ok (.iinc 5 1, 3) := by decide +kernel
theorem d_Sc_reorderBlock_87 : decode b_Sc_reorderBlock 87 = .ok (.iinc 6 1, 3) := by decide +kernel
theorem d_Sc_reorderBlock_90 : decode b_Sc_reorderBlock 90 = .ok (.goto (-51), 3) := by decide +kernel
theorem d_Sc_reorderBlock_93 : decode b_Sc_reorderBlock 93 = .ok (.iload 5, 2) := by decide +kernel
theorem d_Sc_reorderBlock_95 : decode b_Sc_reorderBlock 95 = .ok (.ireturn, 1) := by decide +kernel
theorem d_Sc_findHeights_0 : decode b_Sc_findHeights 0 = .ok (.iload_n 2, 1) := by decide +kernel
theorem d_Sc_findHeights_1 : decode b_Sc_findHeights 1 = .ok (.iconst 1, 1) := by decide +kernel
theorem d_Sc_findHeights_2 : decode b_Sc_findHeights 2 = .ok (.isub, 1) := by decide +kernel
theorem d_Sc_findHeights_3 : decode b_Sc_findHeights 3 = .ok (.istore_n 3, 1) := by decide +kernel
theorem d_Sc_findHeights_4 : decode b_Sc_findHeights 4 = .ok (.iload_n 3, 1) := by decide +kernel
theorem d_Sc_findHeights_5 : decode b_Sc_findHeights 5 = .ok (.iload_n 1, 1) := by decide +kernel
theorem d_Sc_findHeights_6 : decode b_Sc_findHeights 6 = .ok (.if_icmp .lt 131, 3) := by decide +kernel
theorem d_Sc_findHeights_9 : decode b_Sc_findHeights 9 = .ok (.aload_n 0, 1) := by decide +kernel
theorem d_Sc_findHeights_10 : decode b_Sc_findHeights 10 = .ok (.getfield 21, 3) := by decide +kernel
theorem d_Sc_findHeights_13 : decode b_Sc_findHeights 13 = .ok (.iload_n 3, 1) := by decide +kernel
theorem d_Sc_findHeights_14 : decode b_Sc_findHeights 14 = .ok (.iconst 0, 1) := by decide +kernel
theorem d_Sc_findHeights_15 : decode b_Sc_findHeights 15 = .ok (.iastore, 1) := by decide +kernel
theorem d_Sc_findHeights_16 : decode b_Sc_findHeights 16 = .ok (.aload_n 0, 1) := by decide +kernel
theorem d_Sc_findHeights_17 : decode b_Sc_findHeights 17 = .ok (.getfield 25, 3) := by decide +kernel
theorem d_Sc_findHeights_20 : decode b_Sc_findHeights 20 = .ok (.iload_n 3, 1) := by decide +kernel
theorem d_Sc_findHeights_21 : decode b_Sc_findHeights 21 = .ok (.iconst 0, 1) := by decide +kernel
theorem d_Sc_findHeights_22 : decode b_Sc_findHeights 22 = .ok (.iastore, 1) := by decide +kernel
theorem d_Sc_findHeights_23 : decode b_Sc_findHeights 23 = .ok (.iload_n 3, 1) := by decide +kernel
theorem d_Sc_findHeights_24 : decode b_Sc_findHeights 24 = .ok (.iconst 1, 1) := by decide +kernel
theorem d_Sc_findHeights_25 : decode b_Sc_findHeights 25 = .ok (.iadd, 1) := by decide +kernel
theorem d_Sc_findHeights_26 : decode b_Sc_findHeights 26 = .ok (.istore 4, 2) := by decide +kernel
theorem d_Sc_findHeights_28 : decode b_Sc_findHeights 28 = .ok (.iload 4, 2) := by decide +kernel
theorem d_Sc_findHeights_30 : decode b_Sc_findHeights 30 = .ok (.iload_n 2, 1) := by decide +kernel
theorem d_Sc_findHeights_31 : decode b_Sc_findHeights 31 = .ok (.if_icmp .ge 100, 3) := by decide +kernel
theorem d_Sc_findHeights_34 : decode b_Sc_findHeights 34 = .ok (.aload_n 0, 1) := by decide +kernel
theorem d_Sc_findHeights_35 : decode b_Sc_findHeights 35 = .ok (.getfield 11, 3) := by decide +kernel
theorem d_Sc_findHeights_38 : decode b_Sc_findHeights 38 = .ok (.iload 4, 2) := by decide +kernel
theorem d_Sc_findHeights_40 : decode b_Sc_findHeights 40 = .ok (.aaload, 1) := by decide +kernel
theorem d_Sc_findHeights_41 : decode b_Sc_findHeights 41 = .ok (.aload_n 0, 1) := by decide +kernel
theorem d_Sc_findHeights_42 : decode b_Sc_findHeights 42 = .ok (.getfield 11, 3) := by decide +kernel
theorem d_Sc_findHeights_45 : decode b_Sc_findHeights 45 = .ok (.iload_n 3, 1) := by decide +kernel
theorem d_Sc_findHeights_46 : decode b_Sc_findHeights 46 = .ok (.aaload, 1) := by decide +kernel
theorem d_Sc_findHeights_47 : decode b_Sc_findHeights 47 = .ok (.invokevirtual 58, 3) := by decide +kernel
theorem d_Sc_findHeights_50 : decode b_Sc_findHeights 50 = .ok (.ifCond .eq 75, 3) := by decide +kernel
theorem d_Sc_findHeights_53 : decode b_Sc_findHeights 53 = .ok (.aload_n 0, 1) := by decide +kernel
theorem d_Sc_findHeights_54 : decode b_Sc_findHeights 54 = .ok (.getfield 11, 3) := by decide +kernel
theorem d_Sc_findHeights_57 : decode b_Sc_findHeights 57 = .ok (.iload 4, 2) := by decide +kernel
theorem d_Sc_findHeights_59 : decode b_Sc_findHeights 59 = .ok (.aaload, 1) := by decide +kernel
theorem d_Sc_findHeights_60 : decode b_Sc_findHeights 60 = .ok (.aload_n 0, 1) := by decide +kernel
theorem d_Sc_findHeights_61 : decode b_Sc_findHeights 61 = .ok (.getfield 11, 3) := by decide +kernel
theorem d_Sc_findHeights_64 : decode b_Sc_findHeights 64 = .ok (.iload_n 3, 1) := by decide +kernel
theorem d_Sc_findHeights_65 : decode b_Sc_findHeights 65 = .ok (.aaload, 1) := by decide +kernel
theorem d_Sc_findHeights_66 : decode b_Sc_findHeights 66 = .ok (.invokevirtual 62, 3) := by decide +kernel
theorem d_Sc_findHeights_69 : decode b_Sc_findHeights 69 = .ok (.ifCond .eq 15, 3) := by decide +kernel
theorem d_Sc_findHeights_72 : decode b_Sc_findHeights 72 = .ok (.aload_n 0, 1) := by decide +kernel
theorem d_Sc_findHeights_73 : decode b_Sc_findHeights 73 = .ok (.getfield 11, 3) := by decide +kernel
theorem d_Sc_findHeights_76 : decode b_Sc_findHeights 76 = .ok (.iload_n 3, 1) := by decide +kernel
theorem d_Sc_findHeights_77 : decode b_Sc_findHeights 77 = .ok (.aaload, 1) := by decide +kernel
theorem d_Sc_findHeights_78 : decode b_Sc_findHeights 78 = .ok (.invokevirtual 65, 3) := by decide +kernel
theorem d_Sc_findHeights_81 : decode b_Sc_findHeights 81 = .ok (.goto 4, 3) := by decide +kernel
theorem d_Sc_findHeights_84 : decode b_Sc_findHeights 84 = .ok (.iconst 1, 1) := by decide +kernel
theorem d_Sc_findHeights_85 : decode b_Sc_findHeights 85 = .ok (.istore 5, 2) := by decide +kernel
theorem d_Sc_findHeights_87 : decode b_Sc_findHeights 87 = .ok (.aload_n 0, 1) := by decide +kernel
theorem d_Sc_findHeights_88 : decode b_Sc_findHeights 88 = .ok (.getfield 21, 3) := by decide +kernel
theorem d_Sc_findHeights_91 : decode b_Sc_findHeights 91 = .ok (.iload_n 3, 1) := by decide +kernel
theorem d_Sc_findHeights_92 : decode b_Sc_findHeights 92 = .ok (.aload_n 0, 1) := by decide +kernel
theorem d_Sc_findHeights_93 : decode b_Sc_findHeights 93 = .ok (.getfield 21, 3) := by decide +kernel
theorem d_Sc_findHeights_96 : decode b_Sc_findHeights 96 = .ok (.iload_n 3, 1) := by decide +kernel
theorem d_Sc_findHeights_97 : decode b_Sc_findHeights 97 = .ok (.iaload, 1) := by decide +kernel
theorem d_Sc_findHeights_98 : decode b_Sc_findHeights 98 = .ok (.aload_n 0, 1) := by decide +kernel
theorem d_Sc_findHeights_99 : decode b_Sc_findHeights 99 = .ok (.getfield 21, 3) := by decide +kernel
theorem d_Sc_findHeights_102 : decode b_Sc_findHeights 102 = .ok (.iload 4, 2) := by decide +kernel
theorem d_Sc_findHeights_104 : decode b_Sc_findHeights 104 = .ok (.iaload, 1) := by decide +kernel
theorem d_Sc_findHeights_105 : decode b_Sc_findHeights 105 = .ok (.iload 5, 2) := by decide +kernel
theorem d_Sc_findHeights_107 : decode b_Sc_findHeights 107 = .ok (.iadd, 1) := by decide +kernel
theorem d_Sc_findHeights_108 : decode b_Sc_findHeights 108 = .ok (.invokestatic 68, 3) := by decide +kernel
theorem d_Sc_findHeights_111 : decode b_Sc_findHeights 111 = .ok (.iastore, 1) := by decide +kernel
theorem d_Sc_findHeights_112 : decode b_Sc_findHeights 112 = .ok (.aload_n 0, 1) := by decide +kernel
theorem d_Sc_findHeights_113 : decode b_Sc_findHeights 113 = .ok (.getfield 25, 3) := by decide +kernel
theorem d_Sc_findHeights_116 : decode b_Sc_findHeights 116 = .ok (.iload 4, 2) := by decide +kernel
theorem d_Sc_findHeights_118 : decode b_Sc_findHeights 118 = .ok (.dup2, 1) := by decide +kernel
theorem d_Sc_findHeights_119 : decode b_Sc_findHeights 119 = .ok (.iaload, 1) := by decide +kernel
theorem d_Sc_findHeights_120 : decode b_Sc_findHeights 120 = .ok (.iconst 1, 1) := by decide +kernel
theorem d_Sc_findHeights_121 : decode b_Sc_findHeights 121 = .ok (.iload_n 3, 1) := by decide +kernel
theorem d_Sc_findHeights_122 : decode b_Sc_findHeights 122 = .ok (.ishl, 1) := by decide +kernel
theorem d_Sc_findHeights_123 : decode b_Sc_findHeights 123 = .ok (.ior, 1) := by decide +kernel
theorem d_Sc_findHeights_124 : decode b_Sc_findHeights 124 = .ok (.iastore, 1) := by decide +kernel
theorem d_Sc_findHeights_125 : decode b_Sc_findHeights 125 = .ok (.iinc 4 1, 3) := by decide +kernel
theorem d_Sc_findHeights_128 : decode b_Sc_findHeights 128 = .ok (.goto (-100), 3) := by decide +kernel
theorem d_Sc_findHeights_131 : decode b_Sc_findHeights 131 = .ok (.iinc 3 (-1), 3) := by decide +kernel
theorem d_Sc_findHeights_134 : decode b_Sc_findHeights 134 = .ok (.goto (-130), 3) := by decide +kernel
theorem d_Sc_findHeights_137 : decode b_Sc_findHeights 137 = .ok (.return_, 1) := by decide +kernel
theorem d_Sc_nextToPlace_0 : decode b_Sc_nextToPlace 0 = .ok (.iconst (-1), 1) := by decide +kernel
theorem d_Sc_nextToPlace_1 : decode b_Sc_nextToPlace 1 = .ok (.istore 4, 2) := by decide +kernel
theorem d_Sc_nextToPlace_3 : decode b_Sc_nextToPlace 3 = .ok (.iload_n 1, 1) := by decide +kernel
theorem d_Sc_nextToPlace_4 : decode b_Sc_nextToPlace 4 = .ok (.istore 5, 2) := by decide +kernel
theorem d_Sc_nextToPlace_6 : decode b_Sc_nextToPlace 6 = .ok (.iload 5, 2) := by decide +kernel
theorem d_Sc_nextToPlace_8 : decode b_Sc_nextToPlace 8 = .ok (.iload_n 2, 1) := by decide +kernel
theorem d_Sc_nextToPlace_9 : decode b_Sc_nextToPlace 9 = .ok (.if_icmp .ge 69, 3) := by decide +kernel
theorem d_Sc_nextToPlace_12 : decode b_Sc_nextToPlace 12 = .ok (.iload_n 3, 1) := by decide +kernel
theorem d_Sc_nextToPlace_13 : decode b_Sc_nextToPlace 13 = .ok (.iconst 1, 1) := by decide +kernel
theorem d_Sc_nextToPlace_14 : decode b_Sc_nextToPlace 14 = .ok (.iload 5, 2) := by decide +kernel
theorem d_Sc_nextToPlace_16 : decode b_Sc_nextToPlace 16 = .ok (.ishl, 1) := by decide +kernel
theorem d_Sc_nextToPlace_17 : decode b_Sc_nextToPlace 17 = .ok (.iand, 1) := by decide +kernel
theorem d_Sc_nextToPlace_18 : decode b_Sc_nextToPlace 18 = .ok (.ifCond .eq 19, 3) := by decide +kernel
theorem d_Sc_nextToPlace_21 : decode b_Sc_nextToPlace 21 = .ok (.iload_n 3, 1) := by decide +kernel
theorem d_Sc_nextToPlace_22 : decode b_Sc_nextToPlace 22 = .ok (.aload_n 0, 1) := by decide +kernel
theorem d_Sc_nextToPlace_23 : decode b_Sc_nextToPlace 23 = .ok (.getfield 25, 3) := by decide +kernel
theorem d_Sc_nextToPlace_26 : decode b_Sc_nextToPlace 26 = .ok (.iload 5, 2) := by decide +kernel
theorem d_Sc_nextToPlace_28 : decode b_Sc_nextToPlace 28 = .ok (.iaload, 1) := by decide +kernel
theorem d_Sc_nextToPlace_29 : decode b_Sc_nextToPlace 29 = .ok (.iand, 1) := by decide +kernel
theorem d_Sc_nextToPlace_30 : decode b_Sc_nextToPlace 30 = .ok (.ifCond .ne 7, 3) := by decide +kernel
theorem d_Sc_nextToPlace_33 : decode b_Sc_nextToPlace 33 = .ok (.iconst 1, 1) := by decide +kernel
theorem d_Sc_nextToPlace_34 : decode b_Sc_nextToPlace 34 = .ok (.goto 4, 3) := by decide +kernel
theorem d_Sc_nextToPlace_37 : decode b_Sc_nextToPlace 37 = .ok (.iconst 0, 1) := by decide +kernel
theorem d_Sc_nextToPlace_38 : decode b_Sc_nextToPlace 38 = .ok (.istore 6, 2) := by decide +kernel
theorem d_Sc_nextToPlace_40 : decode b_Sc_nextToPlace 40 = .ok (.iload 6, 2) := by decide +kernel
theorem d_Sc_nextToPlace_42 : decode b_Sc_nextToPlace 42 = .ok (.ifCond .eq 30, 3) := by decide +kernel
theorem d_Sc_nextToPlace_45 : decode b_Sc_nextToPlace 45 = .ok (.iload 4, 2) := by decide +kernel
theorem d_Sc_nextToPlace_47 : decode b_Sc_nextToPlace 47 = .ok (.iconst (-1), 1) := by decide +kernel
theorem d_Sc_nextToPlace_48 : decode b_Sc_nextToPlace 48 = .ok (.if_icmp .eq 20, 3) := by decide +kernel
theorem d_Sc_nextToPlace_51 : decode b_Sc_nextToPlace 51 = .ok (.aload_n 0, 1) := by decide +kernel
theorem d_Sc_nextToPlace_52 : decode b_Sc_nextToPlace 52 = .ok (.getfield 21, 3) := by decide +kernel
theorem d_Sc_nextToPlace_55 : decode b_Sc_nextToPlace 55 = .ok (.iload 5, 2) := by decide +kernel
theorem d_Sc_nextToPlace_57 : decode b_Sc_nextToPlace 57 = .ok (.iaload, 1) := by decide +kernel
theorem d_Sc_nextToPlace_58 : decode b_Sc_nextToPlace 58 = .ok (.aload_n 0, 1) := by decide +kernel
theorem d_Sc_nextToPlace_59 : decode b_Sc_nextToPlace 59 = .ok (.getfield 21, 3) := by decide +kernel
theorem d_Sc_nextToPlace_62 : decode b_Sc_nextToPlace 62 = .ok (.iload 4, 2) := by decide +kernel
theorem d_Sc_nextToPlace_64 : decode b_Sc_nextToPlace 64 = .ok (.iaload, 1) := by decide +kernel
theorem d_Sc_nextToPlace_65 : decode b_Sc_nextToPlace 65 = .ok (.if_icmp .le 7, 3) := by decide +kernel
theorem d_Sc_nextToPlace_68 : decode b_Sc_nextToPlace 68 = .ok (.iload 5, 2) := by decide +kernel
theorem d_Sc_nextToPlace_70 : decode b_Sc_nextToPlace 70 = .ok (.istore 4, 2) := by decide +kernel
theorem d_Sc_nextToPlace_72 : decode b_Sc_nextToPlace 72 = .ok (.iinc 5 1, 3) := by decide +kernel
theorem d_Sc_nextToPlace_75 : decode b_Sc_nextToPlace 75 = .ok (.goto (-69), 3) := by decide +kernel
theorem d_Sc_nextToPlace_78 : decode b_Sc_nextToPlace 78 = .ok (.iload 4, 2) := by decide +kernel
theorem d_Sc_nextToPlace_80 : decode b_Sc_nextToPlace 80 = .ok (.iconst (-1), 1) := by decide +kernel
theorem d_Sc_nextToPlace_81 : decode b_Sc_nextToPlace 81 = .ok (.if_icmp .ne 7, 3) := by decide +kernel
theorem d_Sc_nextToPlace_84 : decode b_Sc_nextToPlace 84 = .ok (.iload_n 1, 1) := by decide +kernel
theorem d_Sc_nextToPlace_85 : decode b_Sc_nextToPlace 85 = .ok (.goto 5, 3) := by decide +kernel
theorem d_Sc_nextToPlace_88 : decode b_Sc_nextToPlace 88 = .ok (.iload 4, 2) := by decide +kernel
theorem d_Sc_nextToPlace_90 : decode b_Sc_nextToPlace 90 = .ok (.ireturn, 1) := by decide +kernel
theorem d_Ma_floorMod_0 : decode b_Ma_floorMod 0 = .ok (.iload_n 0, 1) := by decide +kernel
theorem d_Ma_floorMod_1 : decode b_Ma_floorMod 1 = .ok (.iload_n 1, 1) := by decide +kernel
theorem d_Ma_floorMod_2 : decode b_Ma_floorMod 2 = .ok (.irem, 1) := by decide +kernel
theorem d_Ma_floorMod_3 : decode b_Ma_floorMod 3 = .ok (.istore_n 2, 1) := by decide +kernel
theorem d_Ma_floorMod_4 : decode b_Ma_floorMod 4 = .ok (.iload_n 0, 1) := by decide +kernel
theorem d_Ma_floorMod_5 : decode b_Ma_floorMod 5 = .ok (.iload_n 1, 1) := by decide +kernel
theorem d_Ma_floorMod_6 : decode b_Ma_floorMod 6 = .ok (.ixor, 1) := by decide +kernel
theorem d_Ma_floorMod_7 : decode b_Ma_floorMod 7 = .ok (.ifCond .ge 11, 3) := by decide +kernel
theorem d_Ma_floorMod_10 : decode b_Ma_floorMod 10 = .ok (.iload_n 2, 1) := by decide +kernel
theorem d_Ma_floorMod_11 : decode b_Ma_floorMod 11 = .ok (.ifCond .eq 7, 3) := by decide +kernel
theorem d_Ma_floorMod_14 : decode b_Ma_floorMod 14 = .ok (.iload_n 2, 1) := by decide +kernel
theorem d_Ma_floorMod_15 : decode b_Ma_floorMod 15 = .ok (.iload_n 1, 1) := by decide +kernel
theorem d_Ma_floorMod_16 : decode b_Ma_floorMod 16 = .ok (.iadd, 1) := by decide +kernel
theorem d_Ma_floorMod_17 : decode b_Ma_floorMod 17 = .ok (.ireturn, 1) := by decide +kernel
theorem d_Ma_floorMod_18 : decode b_Ma_floorMod 18 = .ok (.iload_n 2, 1) := by decide +kernel
theorem d_Ma_floorMod_19 : decode b_Ma_floorMod 19 = .ok (.ireturn, 1) := by decide +kernel
theorem d_Ar_fill_0 : decode b_Ar_fill 0 = .ok (.iconst 0, 1) := by decide +kernel
theorem d_Ar_fill_1 : decode b_Ar_fill 1 = .ok (.istore_n 3, 1) := by decide +kernel
theorem d_Ar_fill_2 : decode b_Ar_fill 2 = .ok (.aload_n 0, 1) := by decide +kernel
theorem d_Ar_fill_3 : decode b_Ar_fill 3 = .ok (.arraylength, 1) := by decide +kernel
theorem d_Ar_fill_4 : decode b_Ar_fill 4 = .ok (.istore 4, 2) := by decide +kernel
theorem d_Ar_fill_6 : decode b_Ar_fill 6 = .ok (.iload_n 3, 1) := by decide +kernel
theorem d_Ar_fill_7 : decode b_Ar_fill 7 = .ok (.iload 4, 2) := by decide +kernel
theorem d_Ar_fill_9 : decode b_Ar_fill 9 = .ok (.if_icmp .ge 13, 3) := by decide +kernel
theorem d_Ar_fill_12 : decode b_Ar_fill 12 = .ok (.aload_n 0, 1) := by decide +kernel
theorem d_Ar_fill_13 : decode b_Ar_fill 13 = .ok (.iload_n 3, 1) := by decide +kernel
theorem d_Ar_fill_14 : decode b_Ar_fill 14 = .ok (.dload_n 1, 1) := by decide +kernel
theorem d_Ar_fill_15 : decode b_Ar_fill 15 = .ok (.dastore, 1) := by decide +kernel
theorem d_Ar_fill_16 : decode b_Ar_fill 16 = .ok (.iinc 3 1, 3) := by decide +kernel
theorem d_Ar_fill_19 : decode b_Ar_fill 19 = .ok (.goto (-13), 3) := by decide +kernel
theorem d_Ar_fill_22 : decode b_Ar_fill 22 = .ok (.return_, 1) := by decide +kernel
theorem d_Ar_fill2_0 : decode b_Ar_fill2 0 = .ok (.iconst 0, 1) := by decide +kernel
theorem d_Ar_fill2_1 : decode b_Ar_fill2 1 = .ok (.istore_n 2, 1) := by decide +kernel
theorem d_Ar_fill2_2 : decode b_Ar_fill2 2 = .ok (.aload_n 0, 1) := by decide +kernel
theorem d_Ar_fill2_3 : decode b_Ar_fill2 3 = .ok (.arraylength, 1) := by decide +kernel
theorem d_Ar_fill2_4 : decode b_Ar_fill2 4 = .ok (.istore_n 3, 1) := by decide +kernel
theorem d_Ar_fill2_5 : decode b_Ar_fill2 5 = .ok (.iload_n 2, 1) := by decide +kernel
theorem d_Ar_fill2_6 : decode b_Ar_fill2 6 = .ok (.iload_n 3, 1) := by decide +kernel
theorem d_Ar_fill2_7 : decode b_Ar_fill2 7 = .ok (.if_icmp .ge 13, 3) := by decide +kernel
theorem d_Ar_fill2_10 : decode b_Ar_fill2 10 = .ok (.aload_n 0, 1) := by decide +kernel
theorem d_Ar_fill2_11 : decode b_Ar_fill2 11 = .ok (.iload_n 2, 1) := by decide +kernel
theorem d_Ar_fill2_12 : decode b_Ar_fill2 12 = .ok (.iload_n 1, 1) := by decide +kernel
theorem d_Ar_fill2_13 : decode b_Ar_fill2 13 = .ok (.iastore, 1) := by decide +kernel
theorem d_Ar_fill2_14 : decode b_Ar_fill2 14 = .ok (.iinc 2 1, 3) := by decide +kernel
theorem d_Ar_fill2_17 : decode b_Ar_fill2 17 = .ok (.goto (-12), 3) := by decide +kernel
theorem d_Ar_fill2_20 : decode b_Ar_fill2 20 = .ok (.return_, 1) := by decide +kernel
