theorem d_S_init_0 : decode b_S_init 0 = .ok (.aload_n 0, 1) := by decide +kernel
theorem d_S_init_1 : decode b_S_init 1 = .ok (.invokespecial 1, 3) := by decide +kernel
theorem d_S_init_4 : decode b_S_init 4 = .ok (.iload_n 1, 1) := by decide +kernel
theorem d_S_init_5 : decode b_S_init 5 = .ok (.iconst 2, 1) := by decide +kernel
theorem d_S_init_6 : decode b_S_init 6 = .ok (.bipush 6, 2) := by decide +kernel
theorem d_S_init_8 : decode b_S_init 8 = .ok (.invokestatic 7, 3) := by decide +kernel
theorem d_S_init_11 : decode b_S_init 11 = .ok (.istore 4, 2) := by decide +kernel
theorem d_S_init_13 : decode b_S_init 13 = .ok (.aload_n 0, 1) := by decide +kernel
theorem d_S_init_14 : decode b_S_init 14 = .ok (.iload_n 2, 1) := by decide +kernel
theorem d_S_init_15 : decode b_S_init 15 = .ok (.bipush 8, 2) := by decide +kernel
theorem d_S_init_17 : decode b_S_init 17 = .ok (.bipush 24, 2) := by decide +kernel
theorem d_S_init_19 : decode b_S_init 19 = .ok (.invokestatic 7, 3) := by decide +kernel
theorem d_S_init_22 : decode b_S_init 22 = .ok (.putfield 13, 3) := by decide +kernel
theorem d_S_init_25 : decode b_S_init 25 = .ok (.aload_n 0, 1) := by decide +kernel
theorem d_S_init_26 : decode b_S_init 26 = .ok (.iload_n 3, 1) := by decide +kernel
theorem d_S_init_27 : decode b_S_init 27 = .ok (.iconst 1, 1) := by decide +kernel
theorem d_S_init_28 : decode b_S_init 28 = .ok (.iconst 4, 1) := by decide +kernel
theorem d_S_init_29 : decode b_S_init 29 = .ok (.invokestatic 7, 3) := by decide +kernel
theorem d_S_init_32 : decode b_S_init 32 = .ok (.putfield 17, 3) := by decide +kernel
theorem d_S_init_35 : decode b_S_init 35 = .ok (.aload_n 0, 1) := by decide +kernel
theorem d_S_init_36 : decode b_S_init 36 = .ok (.iload 4, 2) := by decide +kernel
theorem d_S_init_38 : decode b_S_init 38 = .ok (.anewarray 20, 3) := by decide +kernel
theorem d_S_init_41 : decode b_S_init 41 = .ok (.putfield 22, 3) := by decide +kernel
theorem d_S_init_44 : decode b_S_init 44 = .ok (.aload_n 0, 1) := by decide +kernel
theorem d_S_init_45 : decode b_S_init 45 = .ok (.iload 4, 2) := by decide +kernel
theorem d_S_init_47 : decode b_S_init 47 = .ok (.anewarray 26, 3) := by decide +kernel
theorem d_S_init_50 : decode b_S_init 50 = .ok (.putfield 28, 3) := by decide +kernel
theorem d_S_init_53 : decode b_S_init 53 = .ok (.iconst 0, 1) := by decide +kernel
theorem d_S_init_54 : decode b_S_init 54 = .ok (.istore 5, 2) := by decide +kernel
theorem d_S_init_56 : decode b_S_init 56 = .ok (.iload 5, 2) := by decide +kernel
theorem d_S_init_58 : decode b_S_init 58 = .ok (.iload 4, 2) := by decide +kernel
theorem d_S_init_60 : decode b_S_init 60 = .ok (.if_icmp .ge 41, 3) := by decide +kernel
theorem d_S_init_63 : decode b_S_init 63 = .ok (.aload_n 0, 1) := by decide +kernel
theorem d_S_init_64 : decode b_S_init 64 = .ok (.getfield 22, 3) := by decide +kernel
theorem d_S_init_67 : decode b_S_init 67 = .ok (.iload 5, 2) := by decide +kernel
theorem d_S_init_69 : decode b_S_init 69 = .ok (.new 20, 3) := by decide +kernel
theorem d_S_init_72 : decode b_S_init 72 = .ok (.dup, 1) := by decide +kernel
theorem d_S_init_73 : decode b_S_init 73 = .ok (.iload 5, 2) := by decide +kernel
theorem d_S_init_75 : decode b_S_init 75 = .ok (.iload 4, 2) := by decide +kernel
theorem d_S_init_77 : decode b_S_init 77 = .ok (.invokespecial 32, 3) := by decide +kernel
theorem d_S_init_80 : decode b_S_init 80 = .ok (.aastore, 1) := by decide +kernel
theorem d_S_init_81 : decode b_S_init 81 = .ok (.aload_n 0, 1) := by decide +kernel
theorem d_S_init_82 : decode b_S_init 82 = .ok (.getfield 28, 3) := by decide +kernel
theorem d_S_init_85 : decode b_S_init 85 = .ok (.iload 5, 2) := by decide +kernel
theorem d_S_init_87 : decode b_S_init 87 = .ok (.new 26, 3) := by decide +kernel
theorem d_S_init_90 : decode b_S_init 90 = .ok (.dup, 1) := by decide +kernel
theorem d_S_init_91 : decode b_S_init 91 = .ok (.invokespecial 35, 3) := by decide +kernel
theorem d_S_init_94 : decode b_S_init 94 = .ok (.aastore, 1) := by decide +kernel
theorem d_S_init_95 : decode b_S_init 95 = .ok (.iinc 5 1, 3) := by decide +kernel
theorem d_S_init_98 : decode b_S_init 98 = .ok (.goto (-42), 3) := by decide +kernel
theorem d_S_init_101 : decode b_S_init 101 = .ok (.aload_n 0, 1) := by decide +kernel
theorem d_S_init_102 : decode b_S_init 102 = .ok (.aload_n 0, 1) := by decide +kernel
theorem d_S_init_103 : decode b_S_init 103 = .ok (.getfield 17, 3) := by decide +kernel
theorem d_S_init_106 : decode b_S_init 106 = .ok (.anewarray 36, 3) := by decide +kernel
theorem d_S_init_109 : decode b_S_init 109 = .ok (.putfield 38, 3) := by decide +kernel
theorem d_S_init_112 : decode b_S_init 112 = .ok (.iconst 0, 1) := by decide +kernel
theorem d_S_init_113 : decode b_S_init 113 = .ok (.istore 5, 2) := by decide +kernel
theorem d_S_init_115 : decode b_S_init 115 = .ok (.iload 5, 2) := by decide +kernel
theorem d_S_init_117 : decode b_S_init 117 = .ok (.aload_n 0, 1) := by decide +kernel
theorem d_S_init_118 : decode b_S_init 118 = .ok (.getfield 17, 3) := by decide +kernel
theorem d_S_init_121 : decode b_S_init 121 = .ok (.if_icmp .ge 23, 3) := by decide +kernel
theorem d_S_init_124 : decode b_S_init 124 = .ok (.aload_n 0, 1) := by decide +kernel
theorem d_S_init_125 : decode b_S_init 125 = .ok (.getfield 38, 3) := by decide +kernel
theorem d_S_init_128 : decode b_S_init 128 = .ok (.iload 5, 2) := by decide +kernel
theorem d_S_init_130 : decode b_S_init 130 = .ok (.new 36, 3) := by decide +kernel
theorem d_S_init_133 : decode b_S_init 133 = .ok (.dup, 1) := by decide +kernel
theorem d_S_init_134 : decode b_S_init 134 = .ok (.invokespecial 42, 3) := by decide +kernel
theorem d_S_init_137 : decode b_S_init 137 = .ok (.aastore, 1) := by decide +kernel
theorem d_S_init_138 : decode b_S_init 138 = .ok (.iinc 5 1, 3) := by decide +kernel
theorem d_S_init_141 : decode b_S_init 141 = .ok (.goto (-26), 3) := by decide +kernel
theorem d_S_init_144 : decode b_S_init 144 = .ok (.aload_n 0, 1) := by decide +kernel
theorem d_S_init_145 : decode b_S_init 145 = .ok (.new 43, 3) := by decide +kernel
theorem d_S_init_148 : decode b_S_init 148 = .ok (.dup, 1) := by decide +kernel
theorem d_S_init_149 : decode b_S_init 149 = .ok (.iload 4, 2) := by decide +kernel
theorem d_S_init_151 : decode b_S_init 151 = .ok (.aload_n 0, 1) := by decide +kernel
theorem d_S_init_152 : decode b_S_init 152 = .ok (.getfield 13, 3) := by decide +kernel
theorem d_S_init_155 : decode b_S_init 155 = .ok (.aload_n 0, 1) := by decide +kernel
theorem d_S_init_156 : decode b_S_init 156 = .ok (.getfield 17, 3) := by decide +kernel
theorem d_S_init_159 : decode b_S_init 159 = .ok (.invokespecial 45, 3) := by decide +kernel
theorem d_S_init_162 : decode b_S_init 162 = .ok (.putfield 48, 3) := by decide +kernel
theorem d_S_init_165 : decode b_S_init 165 = .ok (.aload_n 0, 1) := by decide +kernel
theorem d_S_init_166 : decode b_S_init 166 = .ok (.new 43, 3) := by decide +kernel
theorem d_S_init_169 : decode b_S_init 169 = .ok (.dup, 1) := by decide +kernel
theorem d_S_init_170 : decode b_S_init 170 = .ok (.iload 4, 2) := by decide +kernel
theorem d_S_init_172 : decode b_S_init 172 = .ok (.aload_n 0, 1) := by decide +kernel
theorem d_S_init_173 : decode b_S_init 173 = .ok (.getfield 13, 3) := by decide +kernel
theorem d_S_init_176 : decode b_S_init 176 = .ok (.aload_n 0, 1) := by decide +kernel
theorem d_S_init_177 : decode b_S_init 177 = .ok (.getfield 17, 3) := by decide +kernel
theorem d_S_init_180 : decode b_S_init 180 = .ok (.invokespecial 45, 3) := by decide +kernel
theorem d_S_init_183 : decode b_S_init 183 = .ok (.putfield 52, 3) := by decide +kernel
theorem d_S_init_186 : decode b_S_init 186 = .ok (.aload_n 0, 1) := by decide +kernel
theorem d_S_init_187 : decode b_S_init 187 = .ok (.iconst 0, 1) := by decide +kernel
theorem d_S_init_188 : decode b_S_init 188 = .ok (.putfield 55, 3) := by decide +kernel
theorem d_S_init_191 : decode b_S_init 191 = .ok (.aload_n 0, 1) := by decide +kernel
theorem d_S_init_192 : decode b_S_init 192 = .ok (.iconst 0, 1) := by decide +kernel
theorem d_S_init_193 : decode b_S_init 193 = .ok (.putfield 58, 3) := by decide +kernel
theorem d_S_init_196 : decode b_S_init 196 = .ok (.return_, 1) := by decide +kernel
theorem d_S_pair_0 : decode b_S_pair 0 = .ok (.aload_n 0, 1) := by decide +kernel
theorem d_S_pair_1 : decode b_S_pair 1 = .ok (.iload_n 1, 1) := by decide +kernel
theorem d_S_pair_2 : decode b_S_pair 2 = .ok (.invokevirtual 61, 3) := by decide +kernel
theorem d_S_pair_5 : decode b_S_pair 5 = .ok (.ifCond .eq 31, 3) := by decide +kernel
theorem d_S_pair_8 : decode b_S_pair 8 = .ok (.aload_n 0, 1) := by decide +kernel
theorem d_S_pair_9 : decode b_S_pair 9 = .ok (.iload_n 2, 1) := by decide +kernel
theorem d_S_pair_10 : decode b_S_pair 10 = .ok (.invokevirtual 61, 3) := by decide +kernel
theorem d_S_pair_13 : decode b_S_pair 13 = .ok (.ifCond .eq 23, 3) := by decide +kernel
theorem d_S_pair_16 : decode b_S_pair 16 = .ok (.iload_n 1, 1) := by decide +kernel
theorem d_S_pair_17 : decode b_S_pair 17 = .ok (.iload_n 2, 1) := by decide +kernel
theorem d_S_pair_18 : decode b_S_pair 18 = .ok (.if_icmp .eq 18, 3) := by decide +kernel
theorem d_S_pair_21 : decode b_S_pair 21 = .ok (.aload_n 0, 1) := by decide +kernel
theorem d_S_pair_22 : decode b_S_pair 22 = .ok (.getfield 22, 3) := by decide +kernel
theorem d_S_pair_25 : decode b_S_pair 25 = .ok (.iload_n 1, 1) := by decide +kernel
theorem d_S_pair_26 : decode b_S_pair 26 = .ok (.aaload, 1) := by decide +kernel
theorem d_S_pair_27 : decode b_S_pair 27 = .ok (.getfield 65, 3) := by decide +kernel
theorem d_S_pair_30 : decode b_S_pair 30 = .ok (.iload_n 2, 1) := by decide +kernel
theorem d_S_pair_31 : decode b_S_pair 31 = .ok (.baload, 1) := by decide +kernel
theorem d_S_pair_32 : decode b_S_pair 32 = .ok (.iload_n 3, 1) := by decide +kernel
theorem d_S_pair_33 : decode b_S_pair 33 = .ok (.if_icmp .ne 5, 3) := by decide +kernel
theorem d_S_pair_36 : decode b_S_pair 36 = .ok (.iconst 0, 1) := by decide +kernel
theorem d_S_pair_37 : decode b_S_pair 37 = .ok (.ireturn, 1) := by decide +kernel
theorem d_S_pair_38 : decode b_S_pair 38 = .ok (.aload_n 0, 1) := by decide +kernel
theorem d_S_pair_39 : decode b_S_pair 39 = .ok (.getfield 22, 3) := by decide +kernel
theorem d_S_pair_42 : decode b_S_pair 42 = .ok (.iload_n 1, 1) := by decide +kernel
theorem d_S_pair_43 : decode b_S_pair 43 = .ok (.aaload, 1) := by decide +kernel
theorem d_S_pair_44 : decode b_S_pair 44 = .ok (.getfield 65, 3) := by decide +kernel
theorem d_S_pair_47 : decode b_S_pair 47 = .ok (.iload_n 2, 1) := by decide +kernel
theorem d_S_pair_48 : decode b_S_pair 48 = .ok (.iload_n 3, 1) := by decide +kernel
theorem d_S_pair_49 : decode b_S_pair 49 = .ok (.bastore, 1) := by decide +kernel
theorem d_S_pair_50 : decode b_S_pair 50 = .ok (.aload_n 0, 1) := by decide +kernel
theorem d_S_pair_51 : decode b_S_pair 51 = .ok (.getfield 22, 3) := by decide +kernel
theorem d_S_pair_54 : decode b_S_pair 54 = .ok (.iload_n 2, 1) := by decide +kernel
theorem d_S_pair_55 : decode b_S_pair 55 = .ok (.aaload, 1) := by decide +kernel
theorem d_S_pair_56 : decode b_S_pair 56 = .ok (.getfield 65, 3) := by decide +kernel
theorem d_S_pair_59 : decode b_S_pair 59 = .ok (.iload_n 1, 1) := by decide +kernel
theorem d_S_pair_60 : decode b_S_pair 60 = .ok (.iload_n 3, 1) := by decide +kernel
theorem d_S_pair_61 : decode b_S_pair 61 = .ok (.bastore, 1) := by decide +kernel
theorem d_S_pair_62 : decode b_S_pair 62 = .ok (.iconst 1, 1) := by decide +kernel
theorem d_S_pair_63 : decode b_S_pair 63 = .ok (.ireturn, 1) := by decide +kernel
theorem d_S_plan_0 : decode b_S_plan 0 = .ok (.aload_n 0, 1) := by decide +kernel
theorem d_S_plan_1 : decode b_S_plan 1 = .ok (.getfield 52, 3) := by decide +kernel
theorem d_S_plan_4 : decode b_S_plan 4 = .ok (.aload_n 0, 1) := by decide +kernel
theorem d_S_plan_5 : decode b_S_plan 5 = .ok (.getfield 22, 3) := by decide +kernel
theorem d_S_plan_8 : decode b_S_plan 8 = .ok (.invokevirtual 69, 3) := by decide +kernel
theorem d_S_plan_11 : decode b_S_plan 11 = .ok (.ifCond .ne 5, 3) := by decide +kernel
theorem d_S_plan_14 : decode b_S_plan 14 = .ok (.iconst (-1), 1) := by decide +kernel
theorem d_S_plan_15 : decode b_S_plan 15 = .ok (.ireturn, 1) := by decide +kernel
theorem d_S_plan_16 : decode b_S_plan 16 = .ok (.aload_n 0, 1) := by decide +kernel
theorem d_S_plan_17 : decode b_S_plan 17 = .ok (.getfield 52, 3) := by decide +kernel
theorem d_S_plan_20 : decode b_S_plan 20 = .ok (.astore_n 1, 1) := by decide +kernel
theorem d_S_plan_21 : decode b_S_plan 21 = .ok (.aload_n 0, 1) := by decide +kernel
theorem d_S_plan_22 : decode b_S_plan 22 = .ok (.aload_n 0, 1) := by decide +kernel
theorem d_S_plan_23 : decode b_S_plan 23 = .ok (.getfield 48, 3) := by decide +kernel
theorem d_S_plan_26 : decode b_S_plan 26 = .ok (.putfield 52, 3) := by decide +kernel
theorem d_S_plan_29 : decode b_S_plan 29 = .ok (.aload_n 0, 1) := by decide +kernel
theorem d_S_plan_30 : decode b_S_plan 30 = .ok (.aload_n 1, 1) := by decide +kernel
theorem d_S_plan_31 : decode b_S_plan 31 = .ok (.putfield 48, 3) := by decide +kernel
theorem d_S_plan_34 : decode b_S_plan 34 = .ok (.iconst 0, 1) := by decide +kernel
theorem d_S_plan_35 : decode b_S_plan 35 = .ok (.istore_n 2, 1) := by decide +kernel
theorem d_S_plan_36 : decode b_S_plan 36 = .ok (.iload_n 2, 1) := by decide +kernel
theorem d_S_plan_37 : decode b_S_plan 37 = .ok (.aload_n 0, 1) := by decide +kernel
theorem d_S_plan_38 : decode b_S_plan 38 = .ok (.getfield 22, 3) := by decide +kernel
theorem d_S_plan_41 : decode b_S_plan 41 = .ok (.arraylength, 1) := by decide +kernel
theorem d_S_plan_42 : decode b_S_plan 42 = .ok (.if_icmp .ge 18, 3) := by decide +kernel
theorem d_S_plan_45 : decode b_S_plan 45 = .ok (.aload_n 0, 1) := by decide +kernel
theorem d_S_plan_46 : decode b_S_plan 46 = .ok (.getfield 22, 3) := by decide +kernel
theorem d_S_plan_49 : decode b_S_plan 49 = .ok (.iload_n 2, 1) := by decide +kernel
theorem d_S_plan_50 : decode b_S_plan 50 = .ok (.aaload, 1) := by decide +kernel
theorem d_S_plan_51 : decode b_S_plan 51 = .ok (.invokevirtual 73, 3) := by decide +kernel
theorem d_S_plan_54 : decode b_S_plan 54 = .ok (.iinc 2 1, 3) := by decide +kernel
theorem d_S_plan_57 : decode b_S_plan 57 = .ok (.goto (-21), 3) := by decide +kernel
theorem d_S_plan_60 : decode b_S_plan 60 = .ok (.aload_n 0, 1) := by decide +kernel
theorem d_S_plan_61 : decode b_S_plan 61 = .ok (.getfield 48, 3) := by decide +kernel
theorem d_S_plan_64 : decode b_S_plan 64 = .ok (.getfield 76, 3) := by decide +kernel
theorem d_S_plan_67 : decode b_S_plan 67 = .ok (.ireturn, 1) := by decide +kernel
theorem d_S_start_0 : decode b_S_start 0 = .ok (.aload_n 0, 1) := by decide +kernel
theorem d_S_start_1 : decode b_S_start 1 = .ok (.iload_n 1, 1) := by decide +kernel
theorem d_S_start_2 : decode b_S_start 2 = .ok (.invokevirtual 61, 3) := by decide +kernel
theorem d_S_start_5 : decode b_S_start 5 = .ok (.ifCond .eq 15, 3) := by decide +kernel
theorem d_S_start_8 : decode b_S_start 8 = .ok (.aload_n 0, 1) := by decide +kernel
theorem d_S_start_9 : decode b_S_start 9 = .ok (.getfield 22, 3) := by decide +kernel
theorem d_S_start_12 : decode b_S_start 12 = .ok (.iload_n 1, 1) := by decide +kernel
theorem d_S_start_13 : decode b_S_start 13 = .ok (.aaload, 1) := by decide +kernel
theorem d_S_start_14 : decode b_S_start 14 = .ok (.getfield 79, 3) := by decide +kernel
theorem d_S_start_17 : decode b_S_start 17 = .ok (.ifCond .eq 5, 3) := by decide +kernel
theorem d_S_start_20 : decode b_S_start 20 = .ok (.iconst 0, 1) := by decide +kernel
theorem d_S_start_21 : decode b_S_start 21 = .ok (.ireturn, 1) := by decide +kernel
theorem d_S_start_22 : decode b_S_start 22 = .ok (.aload_n 0, 1) := by decide +kernel
theorem d_S_start_23 : decode b_S_start 23 = .ok (.getfield 22, 3) := by decide +kernel
theorem d_S_start_26 : decode b_S_start 26 = .ok (.iload_n 1, 1) := by decide +kernel
theorem d_S_start_27 : decode b_S_start 27 = .ok (.aaload, 1) := by decide +kernel
theorem d_S_start_28 : decode b_S_start 28 = .ok (.iconst 1, 1) := by decide +kernel
theorem d_S_start_29 : decode b_S_start 29 = .ok (.putfield 79, 3) := by decide +kernel
theorem d_S_start_32 : decode b_S_start 32 = .ok (.aload_n 0, 1) := by decide +kernel
theorem d_S_start_33 : decode b_S_start 33 = .ok (.getfield 22, 3) := by decide +kernel
theorem d_S_start_36 : decode b_S_start 36 = .ok (.iload_n 1, 1) := by decide +kernel
theorem d_S_start_37 : decode b_S_start 37 = .ok (.aaload, 1) := by decide +kernel
theorem d_S_start_38 : decode b_S_start 38 = .ok (.iconst 0, 1) := by decide +kernel
theorem d_S_start_39 : decode b_S_start 39 = .ok (.putfield 83, 3) := by decide +kernel
theorem d_S_start_42 : decode b_S_start 42 = .ok (.iconst 1, 1) := by decide +kernel
theorem d_S_start_43 : decode b_S_start 43 = .ok (.ireturn, 1) := by decide +kernel
theorem d_S_stop_0 : decode b_S_stop 0 = .ok (.aload_n 0, 1) := by decide +kernel
theorem d_S_stop_1 : decode b_S_stop 1 = .ok (.iload_n 1, 1) := by decide +kernel
theorem d_S_stop_2 : decode b_S_stop 2 = .ok (.invokevirtual 86, 3) := by decide +kernel
theorem d_S_stop_5 : decode b_S_stop 5 = .ok (.ifCond .eq 15, 3) := by decide +kernel
theorem d_S_stop_8 : decode b_S_stop 8 = .ok (.aload_n 0, 1) := by decide +kernel
theorem d_S_stop_9 : decode b_S_stop 9 = .ok (.getfield 22, 3) := by decide +kernel
theorem d_S_stop_12 : decode b_S_stop 12 = .ok (.iload_n 1, 1) := by decide +kernel
theorem d_S_stop_13 : decode b_S_stop 13 = .ok (.aaload, 1) := by decide +kernel
theorem d_S_stop_14 : decode b_S_stop 14 = .ok (.getfield 79, 3) := by decide +kernel
theorem d_S_stop_17 : decode b_S_stop 17 = .ok (.ifCond .ne 5, 3) := by decide +kernel
theorem d_S_stop_20 : decode b_S_stop 20 = .ok (.iconst 0, 1) := by decide +kernel
theorem d_S_stop_21 : decode b_S_stop 21 = .ok (.ireturn, 1) := by decide +kernel
theorem d_S_stop_22 : decode b_S_stop 22 = .ok (.aload_n 0, 1) := by decide +kernel
theorem d_S_stop_23 : decode b_S_stop 23 = .ok (.getfield 22, 3) := by decide +kernel
theorem d_S_stop_26 : decode b_S_stop 26 = .ok (.iload_n 1, 1) := by decide +kernel
theorem d_S_stop_27 : decode b_S_stop 27 = .ok (.aaload, 1) := by decide +kernel
theorem d_S_stop_28 : decode b_S_stop 28 = .ok (.invokevirtual 89, 3) := by decide +kernel
theorem d_S_stop_31 : decode b_S_stop 31 = .ok (.iconst 1, 1) := by decide +kernel
theorem d_S_stop_32 : decode b_S_stop 32 = .ok (.ireturn, 1) := by decide +kernel
theorem d_S_drift_0 : decode b_S_drift 0 = .ok (.aload_n 0, 1) := by decide +kernel
theorem d_S_drift_1 : decode b_S_drift 1 = .ok (.iload_n 1, 1) := by decide +kernel
theorem d_S_drift_2 : decode b_S_drift 2 = .ok (.invokevirtual 86, 3) := by decide +kernel
theorem d_S_drift_5 : decode b_S_drift 5 = .ok (.ifCond .eq 13, 3) := by decide +kernel
theorem d_S_drift_8 : decode b_S_drift 8 = .ok (.iload_n 2, 1) := by decide +kernel
theorem d_S_drift_9 : decode b_S_drift 9 = .ok (.bipush (-3), 2) := by decide +kernel
theorem d_S_drift_11 : decode b_S_drift 11 = .ok (.iconst 3, 1) := by decide +kernel
theorem d_S_drift_12 : decode b_S_drift 12 = .ok (.invokestatic 92, 3) := by decide +kernel
theorem d_S_drift_15 : decode b_S_drift 15 = .ok (.ifCond .ne 5, 3) := by decide +kernel
theorem d_S_drift_18 : decode b_S_drift 18 = .ok (.iconst 0, 1) := by decide +kernel
theorem d_S_drift_19 : decode b_S_drift 19 = .ok (.ireturn, 1) := by decide +kernel
theorem d_S_drift_20 : decode b_S_drift 20 = .ok (.aload_n 0, 1) := by decide +kernel
theorem d_S_drift_21 : decode b_S_drift 21 = .ok (.getfield 22, 3) := by decide +kernel
theorem d_S_drift_24 : decode b_S_drift 24 = .ok (.iload_n 1, 1) := by decide +kernel
theorem d_S_drift_25 : decode b_S_drift 25 = .ok (.aaload, 1) := by decide +kernel
theorem d_S_drift_26 : decode b_S_drift 26 = .ok (.iload_n 2, 1) := by decide +kernel
theorem d_S_drift_27 : decode b_S_drift 27 = .ok (.putfield 96, 3) := by decide +kernel
theorem d_S_drift_30 : decode b_S_drift 30 = .ok (.iconst 1, 1) := by decide +kernel
theorem d_S_drift_31 : decode b_S_drift 31 = .ok (.ireturn, 1) := by decide +kernel
theorem d_S_radio_0 : decode b_S_radio 0 = .ok (.aload_n 0, 1) := by decide +kernel
theorem d_S_radio_1 : decode b_S_radio 1 = .ok (.iload_n 1, 1) := by decide +kernel
theorem d_S_radio_2 : decode b_S_radio 2 = .ok (.invokevirtual 99, 3) := by decide +kernel
theorem d_S_radio_5 : decode b_S_radio 5 = .ok (.ifCond .ne 5, 3) := by decide +kernel
theorem d_S_radio_8 : decode b_S_radio 8 = .ok (.iconst 0, 1) := by decide +kernel
theorem d_S_radio_9 : decode b_S_radio 9 = .ok (.ireturn, 1) := by decide +kernel
theorem d_S_radio_10 : decode b_S_radio 10 = .ok (.aload_n 0, 1) := by decide +kernel
theorem d_S_radio_11 : decode b_S_radio 11 = .ok (.getfield 38, 3) := by decide +kernel
theorem d_S_radio_14 : decode b_S_radio 14 = .ok (.iload_n 1, 1) := by decide +kernel
theorem d_S_radio_15 : decode b_S_radio 15 = .ok (.aaload, 1) := by decide +kernel
theorem d_S_radio_16 : decode b_S_radio 16 = .ok (.lload_n 2, 1) := by decide +kernel
theorem d_S_radio_17 : decode b_S_radio 17 = .ok (.putfield 102, 3) := by decide +kernel
theorem d_S_radio_20 : decode b_S_radio 20 = .ok (.aload_n 0, 1) := by decide +kernel
theorem d_S_radio_21 : decode b_S_radio 21 = .ok (.getfield 38, 3) := by decide +kernel
theorem d_S_radio_24 : decode b_S_radio 24 = .ok (.iload_n 1, 1) := by decide +kernel
theorem d_S_radio_25 : decode b_S_radio 25 = .ok (.aaload, 1) := by decide +kernel
theorem d_S_radio_26 : decode b_S_radio 26 = .ok (.lload 4, 2) := by decide +kernel
theorem d_S_radio_28 : decode b_S_radio 28 = .ok (.putfield 106, 3) := by decide +kernel
theorem d_S_radio_31 : decode b_S_radio 31 = .ok (.iconst 1, 1) := by decide +kernel
theorem d_S_radio_32 : decode b_S_radio 32 = .ok (.ireturn, 1) := by decide +kernel
theorem d_S_sample_0 : decode b_S_sample 0 = .ok (.aload_n 0, 1) := by decide +kernel
theorem d_S_sample_1 : decode b_S_sample 1 = .ok (.iload_n 1, 1) := by decide +kernel
theorem d_S_sample_2 : decode b_S_sample 2 = .ok (.invokevirtual 86, 3) := by decide +kernel
theorem d_S_sample_5 : decode b_S_sample 5 = .ok (.ifCond .eq 28, 3) := by decide +kernel
theorem d_S_sample_8 : decode b_S_sample 8 = .ok (.aload_n 0, 1) := by decide +kernel
theorem d_S_sample_9 : decode b_S_sample 9 = .ok (.getfield 22, 3) := by decide +kernel
theorem d_S_sample_12 : decode b_S_sample 12 = .ok (.iload_n 1, 1) := by decide +kernel
theorem d_S_sample_13 : decode b_S_sample 13 = .ok (.aaload, 1) := by decide +kernel
theorem d_S_sample_14 : decode b_S_sample 14 = .ok (.getfield 79, 3) := by decide +kernel
theorem d_S_sample_17 : decode b_S_sample 17 = .ok (.ifCond .eq 16, 3) := by decide +kernel
theorem d_S_sample_20 : decode b_S_sample 20 = .ok (.iload_n 2, 1) := by decide +kernel
theorem d_S_sample_21 : decode b_S_sample 21 = .ok (.sipush (-1000), 3) := by decide +kernel
theorem d_S_sample_24 : decode b_S_sample 24 = .ok (.sipush 1000, 3) := by decide +kernel
theorem d_S_sample_27 : decode b_S_sample 27 = .ok (.invokestatic 92, 3) := by decide +kernel
theorem d_S_sample_30 : decode b_S_sample 30 = .ok (.ifCond .ne 5, 3) := by decide +kernel
theorem d_S_sample_33 : decode b_S_sample 33 = .ok (.iconst (-1), 1) := by decide +kernel
theorem d_S_sample_34 : decode b_S_sample 34 = .ok (.ireturn, 1) := by decide +kernel
theorem d_S_sample_35 : decode b_S_sample 35 = .ok (.aload_n 0, 1) := by decide +kernel
theorem d_S_sample_36 : decode b_S_sample 36 = .ok (.getfield 22, 3) := by decide +kernel
theorem d_S_sample_39 : decode b_S_sample 39 = .ok (.iload_n 1, 1) := by decide +kernel
theorem d_S_sample_40 : decode b_S_sample 40 = .ok (.aaload, 1) := by decide +kernel
theorem d_S_sample_41 : decode b_S_sample 41 = .ok (.astore_n 3, 1) := by decide +kernel
theorem d_S_sample_42 : decode b_S_sample 42 = .ok (.aload_n 3, 1) := by decide +kernel
theorem d_S_sample_43 : decode b_S_sample 43 = .ok (.getfield 109, 3) := by decide +kernel
theorem d_S_sample_46 : decode b_S_sample 46 = .ok (.iload_n 1, 1) := by decide +kernel
theorem d_S_sample_47 : decode b_S_sample 47 = .ok (.aload_n 3, 1) := by decide +kernel
theorem d_S_sample_48 : decode b_S_sample 48 = .ok (.getfield 113, 3) := by decide +kernel
theorem d_S_sample_51 : decode b_S_sample 51 = .ok (.iconst 1, 1) := by decide +kernel
theorem d_S_sample_52 : decode b_S_sample 52 = .ok (.iadd, 1) := by decide +kernel
theorem d_S_sample_53 : decode b_S_sample 53 = .ok (.iload_n 2, 1) := by decide +kernel
theorem d_S_sample_54 : decode b_S_sample 54 = .ok (.invokevirtual 116, 3) := by decide +kernel
theorem d_S_sample_57 : decode b_S_sample 57 = .ok (.ifCond .ne 5, 3) := by decide +kernel
theorem d_S_sample_60 : decode b_S_sample 60 = .ok (.iconst (-1), 1) := by decide +kernel
theorem d_S_sample_61 : decode b_S_sample 61 = .ok (.ireturn, 1) := by decide +kernel
theorem d_S_sample_62 : decode b_S_sample 62 = .ok (.aload_n 3, 1) := by decide +kernel
theorem d_S_sample_63 : decode b_S_sample 63 = .ok (.dup, 1) := by decide +kernel
theorem d_S_sample_64 : decode b_S_sample 64 = .ok (.getfield 113, 3) := by decide +kernel
theorem d_S_sample_67 : decode b_S_sample 67 = .ok (.iconst 1, 1) := by decide +kernel
theorem d_S_sample_68 : decode b_S_sample 68 = .ok (.iadd, 1) := by decide +kernel
theorem d_S_sample_69 : decode b_S_sample 69 = .ok (.putfield 113, 3) := by decide +kernel
theorem d_S_sample_72 : decode b_S_sample 72 = .ok (.aload_n 3, 1) := by decide +kernel
theorem d_S_sample_73 : decode b_S_sample 73 = .ok (.getfield 113, 3) := by decide +kernel
theorem d_S_sample_76 : decode b_S_sample 76 = .ok (.ireturn, 1) := by decide +kernel
theorem d_S_control_0 : decode b_S_control 0 = .ok (.aload_n 0, 1) := by decide +kernel
theorem d_S_control_1 : decode b_S_control 1 = .ok (.iload_n 1, 1) := by decide +kernel
theorem d_S_control_2 : decode b_S_control 2 = .ok (.invokevirtual 86, 3) := by decide +kernel
theorem d_S_control_5 : decode b_S_control 5 = .ok (.ifCond .eq 37, 3) := by decide +kernel
theorem d_S_control_8 : decode b_S_control 8 = .ok (.iload_n 2, 1) := by decide +kernel
theorem d_S_control_9 : decode b_S_control 9 = .ok (.sipush (-1000), 3) := by decide +kernel
theorem d_S_control_12 : decode b_S_control 12 = .ok (.sipush 1000, 3) := by decide +kernel
theorem d_S_control_15 : decode b_S_control 15 = .ok (.invokestatic 92, 3) := by decide +kernel
theorem d_S_control_18 : decode b_S_control 18 = .ok (.ifCond .eq 24, 3) := by decide +kernel
theorem d_S_control_21 : decode b_S_control 21 = .ok (.iload_n 3, 1) := by decide +kernel
theorem d_S_control_22 : decode b_S_control 22 = .ok (.iconst 0, 1) := by decide +kernel
theorem d_S_control_23 : decode b_S_control 23 = .ok (.bipush 16, 2) := by decide +kernel
theorem d_S_control_25 : decode b_S_control 25 = .ok (.invokestatic 92, 3) := by decide +kernel
theorem d_S_control_28 : decode b_S_control 28 = .ok (.ifCond .eq 14, 3) := by decide +kernel
theorem d_S_control_31 : decode b_S_control 31 = .ok (.iload 4, 2) := by decide +kernel
theorem d_S_control_33 : decode b_S_control 33 = .ok (.iconst 0, 1) := by decide +kernel
theorem d_S_control_34 : decode b_S_control 34 = .ok (.bipush 16, 2) := by decide +kernel
theorem d_S_control_36 : decode b_S_control 36 = .ok (.invokestatic 92, 3) := by decide +kernel
theorem d_S_control_39 : decode b_S_control 39 = .ok (.ifCond .ne 5, 3) := by decide +kernel
theorem d_S_control_42 : decode b_S_control 42 = .ok (.iconst 0, 1) := by decide +kernel
theorem d_S_control_43 : decode b_S_control 43 = .ok (.ireturn, 1) := by decide +kernel
theorem d_S_control_44 : decode b_S_control 44 = .ok (.aload_n 0, 1) := by decide +kernel
theorem d_S_control_45 : decode b_S_control 45 = .ok (.getfield 28, 3) := by decide +kernel
theorem d_S_control_48 : decode b_S_control 48 = .ok (.iload_n 1, 1) := by decide +kernel
theorem d_S_control_49 : decode b_S_control 49 = .ok (.aaload, 1) := by decide +kernel
theorem d_S_control_50 : decode b_S_control 50 = .ok (.iload_n 2, 1) := by decide +kernel
theorem d_S_control_51 : decode b_S_control 51 = .ok (.putfield 121, 3) := by decide +kernel
theorem d_S_control_54 : decode b_S_control 54 = .ok (.aload_n 0, 1) := by decide +kernel
theorem d_S_control_55 : decode b_S_control 55 = .ok (.getfield 28, 3) := by decide +kernel
theorem d_S_control_58 : decode b_S_control 58 = .ok (.iload_n 1, 1) := by decide +kernel
theorem d_S_control_59 : decode b_S_control 59 = .ok (.aaload, 1) := by decide +kernel
theorem d_S_control_60 : decode b_S_control 60 = .ok (.iload_n 3, 1) := by decide +kernel
theorem d_S_control_61 : decode b_S_control 61 = .ok (.putfield 124, 3) := by decide +kernel
theorem d_S_control_64 : decode b_S_control 64 = .ok (.aload_n 0, 1) := by decide +kernel
theorem d_S_control_65 : decode b_S_control 65 = .ok (.getfield 28, 3) := by decide +kernel
theorem d_S_control_68 : decode b_S_control 68 = .ok (.iload_n 1, 1) := by decide +kernel
theorem d_S_control_69 : decode b_S_control 69 = .ok (.aaload, 1) := by decide +kernel
theorem d_S_control_70 : decode b_S_control 70 = .ok (.iload 4, 2) := by decide +kernel
theorem d_S_control_72 : decode b_S_control 72 = .ok (.putfield 127, 3) := by decide +kernel
theorem d_S_control_75 : decode b_S_control 75 = .ok (.iconst 1, 1) := by decide +kernel
theorem d_S_control_76 : decode b_S_control 76 = .ok (.ireturn, 1) := by decide +kernel
theorem d_S_run_0 : decode b_S_run 0 = .ok (.iload_n 1, 1) := by decide +kernel
theorem d_S_run_1 : decode b_S_run 1 = .ok (.iconst 1, 1) := by decide +kernel
theorem d_S_run_2 : decode b_S_run 2 = .ok (.bipush 64, 2) := by decide +kernel
theorem d_S_run_4 : decode b_S_run 4 = .ok (.invokestatic 92, 3) := by decide +kernel
theorem d_S_run_7 : decode b_S_run 7 = .ok (.ifCond .ne 5, 3) := by decide +kernel
theorem d_S_run_10 : decode b_S_run 10 = .ok (.iconst (-1), 1) := by decide +kernel
theorem d_S_run_11 : decode b_S_run 11 = .ok (.ireturn, 1) := by decide +kernel
theorem d_S_run_12 : decode b_S_run 12 = .ok (.iconst 0, 1) := by decide +kernel
theorem d_S_run_13 : decode b_S_run 13 = .ok (.istore_n 2, 1) := by decide +kernel
theorem d_S_run_14 : decode b_S_run 14 = .ok (.iload_n 2, 1) := by decide +kernel
theorem d_S_run_15 : decode b_S_run 15 = .ok (.iload_n 1, 1) := by decide +kernel
theorem d_S_run_16 : decode b_S_run 16 = .ok (.if_icmp .ge 48, 3) := by decide +kernel
theorem d_S_run_19 : decode b_S_run 19 = .ok (.aload_n 0, 1) := by decide +kernel
theorem d_S_run_20 : decode b_S_run 20 = .ok (.invokevirtual 130, 3) := by decide +kernel
theorem d_S_run_23 : decode b_S_run 23 = .ok (.aload_n 0, 1) := by decide +kernel
theorem d_S_run_24 : decode b_S_run 24 = .ok (.getfield 48, 3) := by decide +kernel
theorem d_S_run_27 : decode b_S_run 27 = .ok (.getfield 133, 3) := by decide +kernel
theorem d_S_run_30 : decode b_S_run 30 = .ok (.ifCond .eq 18, 3) := by decide +kernel
theorem d_S_run_33 : decode b_S_run 33 = .ok (.aload_n 0, 1) := by decide +kernel
theorem d_S_run_34 : decode b_S_run 34 = .ok (.aload_n 0, 1) := by decide +kernel
theorem d_S_run_35 : decode b_S_run 35 = .ok (.getfield 55, 3) := by decide +kernel
theorem d_S_run_38 : decode b_S_run 38 = .ok (.aload_n 0, 1) := by decide +kernel
theorem d_S_run_39 : decode b_S_run 39 = .ok (.getfield 13, 3) := by decide +kernel
theorem d_S_run_42 : decode b_S_run 42 = .ok (.invokestatic 136, 3) := by decide +kernel
theorem d_S_run_45 : decode b_S_run 45 = .ok (.invokevirtual 142, 3) := by decide +kernel
theorem d_S_run_48 : decode b_S_run 48 = .ok (.aload_n 0, 1) := by decide +kernel
theorem d_S_run_49 : decode b_S_run 49 = .ok (.dup, 1) := by decide +kernel
theorem d_S_run_50 : decode b_S_run 50 = .ok (.getfield 55, 3) := by decide +kernel
theorem d_S_run_53 : decode b_S_run 53 = .ok (.iconst 1, 1) := by decide +kernel
theorem d_S_run_54 : decode b_S_run 54 = .ok (.iadd, 1) := by decide +kernel
theorem d_S_run_55 : decode b_S_run 55 = .ok (.putfield 55, 3) := by decide +kernel
theorem d_S_run_58 : decode b_S_run 58 = .ok (.iinc 2 1, 3) := by decide +kernel
theorem d_S_run_61 : decode b_S_run 61 = .ok (.goto (-47), 3) := by decide +kernel
theorem d_S_run_64 : decode b_S_run 64 = .ok (.aload_n 0, 1) := by decide +kernel
theorem d_S_run_65 : decode b_S_run 65 = .ok (.getfield 55, 3) := by decide +kernel
theorem d_S_run_68 : decode b_S_run 68 = .ok (.ireturn, 1) := by decide +kernel
theorem d_S_rank_0 : decode b_S_rank 0 = .ok (.aload_n 0, 1) := by decide +kernel
theorem d_S_rank_1 : decode b_S_rank 1 = .ok (.getfield 48, 3) := by decide +kernel
theorem d_S_rank_4 : decode b_S_rank 4 = .ok (.getfield 133, 3) := by decide +kernel
theorem d_S_rank_7 : decode b_S_rank 7 = .ok (.ifCond .eq 23, 3) := by decide +kernel
theorem d_S_rank_10 : decode b_S_rank 10 = .ok (.aload_n 0, 1) := by decide +kernel
theorem d_S_rank_11 : decode b_S_rank 11 = .ok (.iload_n 1, 1) := by decide +kernel
theorem d_S_rank_12 : decode b_S_rank 12 = .ok (.invokevirtual 61, 3) := by decide +kernel
theorem d_S_rank_15 : decode b_S_rank 15 = .ok (.ifCond .eq 15, 3) := by decide +kernel
theorem d_S_rank_18 : decode b_S_rank 18 = .ok (.aload_n 0, 1) := by decide +kernel
theorem d_S_rank_19 : decode b_S_rank 19 = .ok (.getfield 48, 3) := by decide +kernel
theorem d_S_rank_22 : decode b_S_rank 22 = .ok (.getfield 146, 3) := by decide +kernel
theorem d_S_rank_25 : decode b_S_rank 25 = .ok (.iload_n 1, 1) := by decide +kernel
theorem d_S_rank_26 : decode b_S_rank 26 = .ok (.iaload, 1) := by decide +kernel
theorem d_S_rank_27 : decode b_S_rank 27 = .ok (.goto 4, 3) := by decide +kernel
theorem d_S_rank_30 : decode b_S_rank 30 = .ok (.iconst (-1), 1) := by decide +kernel
theorem d_S_rank_31 : decode b_S_rank 31 = .ok (.ireturn, 1) := by decide +kernel
theorem d_S_parent_0 : decode b_S_parent 0 = .ok (.aload_n 0, 1) := by decide +kernel
theorem d_S_parent_1 : decode b_S_parent 1 = .ok (.getfield 48, 3) := by decide +kernel
theorem d_S_parent_4 : decode b_S_parent 4 = .ok (.getfield 133, 3) := by decide +kernel
theorem d_S_parent_7 : decode b_S_parent 7 = .ok (.ifCond .eq 11, 3) := by decide +kernel
theorem d_S_parent_10 : decode b_S_parent 10 = .ok (.aload_n 0, 1) := by decide +kernel
theorem d_S_parent_11 : decode b_S_parent 11 = .ok (.iload_n 1, 1) := by decide +kernel
theorem d_S_parent_12 : decode b_S_parent 12 = .ok (.invokevirtual 61, 3) := by decide +kernel
theorem d_S_parent_15 : decode b_S_parent 15 = .ok (.ifCond .ne 5, 3) := by decide +kernel
theorem d_S_parent_18 : decode b_S_parent 18 = .ok (.iconst (-1), 1) := by decide +kernel
theorem d_S_parent_19 : decode b_S_parent 19 = .ok (.ireturn, 1) := by decide +kernel
theorem d_S_parent_20 : decode b_S_parent 20 = .ok (.iload_n 2, 1) := by decide +kernel
theorem d_S_parent_21 : decode b_S_parent 21 = .ok (.ifCond .ne 13, 3) := by decide +kernel
theorem d_S_parent_24 : decode b_S_parent 24 = .ok (.aload_n 0, 1) := by decide +kernel
theorem d_S_parent_25 : decode b_S_parent 25 = .ok (.getfield 48, 3) := by decide +kernel
theorem d_S_parent_28 : decode b_S_parent 28 = .ok (.getfield 150, 3) := by decide +kernel
theorem d_S_parent_31 : decode b_S_parent 31 = .ok (.iload_n 1, 1) := by decide +kernel
theorem d_S_parent_32 : decode b_S_parent 32 = .ok (.iaload, 1) := by decide +kernel
theorem d_S_parent_33 : decode b_S_parent 33 = .ok (.ireturn, 1) := by decide +kernel
theorem d_S_parent_34 : decode b_S_parent 34 = .ok (.iload_n 2, 1) := by decide +kernel
theorem d_S_parent_35 : decode b_S_parent 35 = .ok (.iconst 1, 1) := by decide +kernel
theorem d_S_parent_36 : decode b_S_parent 36 = .ok (.if_icmp .ne 15, 3) := by decide +kernel
theorem d_S_parent_39 : decode b_S_parent 39 = .ok (.aload_n 0, 1) := by decide +kernel
theorem d_S_parent_40 : decode b_S_parent 40 = .ok (.getfield 48, 3) := by decide +kernel
theorem d_S_parent_43 : decode b_S_parent 43 = .ok (.getfield 153, 3) := by decide +kernel
theorem d_S_parent_46 : decode b_S_parent 46 = .ok (.iload_n 1, 1) := by decide +kernel
theorem d_S_parent_47 : decode b_S_parent 47 = .ok (.iaload, 1) := by decide +kernel
theorem d_S_parent_48 : decode b_S_parent 48 = .ok (.goto 4, 3) := by decide +kernel
theorem d_S_parent_51 : decode b_S_parent 51 = .ok (.iconst (-1), 1) := by decide +kernel
theorem d_S_parent_52 : decode b_S_parent 52 = .ok (.ireturn, 1) := by decide +kernel
theorem d_S_cell_0 : decode b_S_cell 0 = .ok (.iload_n 1, 1) := by decide +kernel
theorem d_S_cell_1 : decode b_S_cell 1 = .ok (.iconst 0, 1) := by decide +kernel
theorem d_S_cell_2 : decode b_S_cell 2 = .ok (.aload_n 0, 1) := by decide +kernel
theorem d_S_cell_3 : decode b_S_cell 3 = .ok (.getfield 13, 3) := by decide +kernel
theorem d_S_cell_6 : decode b_S_cell 6 = .ok (.iconst 1, 1) := by decide +kernel
theorem d_S_cell_7 : decode b_S_cell 7 = .ok (.isub, 1) := by decide +kernel
theorem d_S_cell_8 : decode b_S_cell 8 = .ok (.invokestatic 92, 3) := by decide +kernel
theorem d_S_cell_11 : decode b_S_cell 11 = .ok (.ifCond .eq 11, 3) := by decide +kernel
theorem d_S_cell_14 : decode b_S_cell 14 = .ok (.aload_n 0, 1) := by decide +kernel
theorem d_S_cell_15 : decode b_S_cell 15 = .ok (.iload_n 2, 1) := by decide +kernel
theorem d_S_cell_16 : decode b_S_cell 16 = .ok (.invokevirtual 99, 3) := by decide +kernel
theorem d_S_cell_19 : decode b_S_cell 19 = .ok (.ifCond .ne 5, 3) := by decide +kernel
theorem d_S_cell_22 : decode b_S_cell 22 = .ok (.iconst (-1), 1) := by decide +kernel
theorem d_S_cell_23 : decode b_S_cell 23 = .ok (.ireturn, 1) := by decide +kernel
theorem d_S_cell_24 : decode b_S_cell 24 = .ok (.aload_n 0, 1) := by decide +kernel
theorem d_S_cell_25 : decode b_S_cell 25 = .ok (.getfield 48, 3) := by decide +kernel
theorem d_S_cell_28 : decode b_S_cell 28 = .ok (.getfield 133, 3) := by decide +kernel
theorem d_S_cell_31 : decode b_S_cell 31 = .ok (.ifCond .eq 15, 3) := by decide +kernel
theorem d_S_cell_34 : decode b_S_cell 34 = .ok (.aload_n 0, 1) := by decide +kernel
theorem d_S_cell_35 : decode b_S_cell 35 = .ok (.getfield 48, 3) := by decide +kernel
theorem d_S_cell_38 : decode b_S_cell 38 = .ok (.iload_n 1, 1) := by decide +kernel
theorem d_S_cell_39 : decode b_S_cell 39 = .ok (.iload_n 2, 1) := by decide +kernel
theorem d_S_cell_40 : decode b_S_cell 40 = .ok (.invokevirtual 156, 3) := by decide +kernel
theorem d_S_cell_43 : decode b_S_cell 43 = .ok (.goto 4, 3) := by decide +kernel
theorem d_S_cell_46 : decode b_S_cell 46 = .ok (.iconst 0, 1) := by decide +kernel
theorem d_S_cell_47 : decode b_S_cell 47 = .ok (.ireturn, 1) := by decide +kernel
theorem d_S_current_0 : decode b_S_current 0 = .ok (.aload_n 0, 1) := by decide +kernel
theorem d_S_current_1 : decode b_S_current 1 = .ok (.iload_n 1, 1) := by decide +kernel
theorem d_S_current_2 : decode b_S_current 2 = .ok (.invokevirtual 61, 3) := by decide +kernel
theorem d_S_current_5 : decode b_S_current 5 = .ok (.ifCond .eq 19, 3) := by decide +kernel
theorem d_S_current_8 : decode b_S_current 8 = .ok (.aload_n 0, 1) := by decide +kernel
theorem d_S_current_9 : decode b_S_current 9 = .ok (.getfield 22, 3) := by decide +kernel
theorem d_S_current_12 : decode b_S_current 12 = .ok (.iload_n 1, 1) := by decide +kernel
theorem d_S_current_13 : decode b_S_current 13 = .ok (.aaload, 1) := by decide +kernel
theorem d_S_current_14 : decode b_S_current 14 = .ok (.getfield 83, 3) := by decide +kernel
theorem d_S_current_17 : decode b_S_current 17 = .ok (.ifCond .eq 7, 3) := by decide +kernel
theorem d_S_current_20 : decode b_S_current 20 = .ok (.iconst 1, 1) := by decide +kernel
theorem d_S_current_21 : decode b_S_current 21 = .ok (.goto 4, 3) := by decide +kernel
theorem d_S_current_24 : decode b_S_current 24 = .ok (.iconst 0, 1) := by decide +kernel
theorem d_S_current_25 : decode b_S_current 25 = .ok (.ireturn, 1) := by decide +kernel
theorem d_S_offset_0 : decode b_S_offset 0 = .ok (.aload_n 0, 1) := by decide +kernel
theorem d_S_offset_1 : decode b_S_offset 1 = .ok (.iload_n 1, 1) := by decide +kernel
theorem d_S_offset_2 : decode b_S_offset 2 = .ok (.invokevirtual 61, 3) := by decide +kernel
theorem d_S_offset_5 : decode b_S_offset 5 = .ok (.ifCond .eq 15, 3) := by decide +kernel
theorem d_S_offset_8 : decode b_S_offset 8 = .ok (.aload_n 0, 1) := by decide +kernel
theorem d_S_offset_9 : decode b_S_offset 9 = .ok (.getfield 22, 3) := by decide +kernel
theorem d_S_offset_12 : decode b_S_offset 12 = .ok (.iload_n 1, 1) := by decide +kernel
theorem d_S_offset_13 : decode b_S_offset 13 = .ok (.aaload, 1) := by decide +kernel
theorem d_S_offset_14 : decode b_S_offset 14 = .ok (.getfield 159, 3) := by decide +kernel
theorem d_S_offset_17 : decode b_S_offset 17 = .ok (.goto 6, 3) := by decide +kernel
theorem d_S_offset_20 : decode b_S_offset 20 = .ok (.sipush (-9999), 3) := by decide +kernel
theorem d_S_offset_23 : decode b_S_offset 23 = .ok (.ireturn, 1) := by decide +kernel
theorem d_S_count_0 : decode b_S_count 0 = .ok (.aload_n 0, 1) := by decide +kernel
theorem d_S_count_1 : decode b_S_count 1 = .ok (.iload_n 1, 1) := by decide +kernel
theorem d_S_count_2 : decode b_S_count 2 = .ok (.invokevirtual 61, 3) := by decide +kernel
theorem d_S_count_5 : decode b_S_count 5 = .ok (.ifCond .ne 5, 3) := by decide +kernel
theorem d_S_count_8 : decode b_S_count 8 = .ok (.iconst (-1), 1) := by decide +kernel
theorem d_S_count_9 : decode b_S_count 9 = .ok (.ireturn, 1) := by decide +kernel
theorem d_S_count_10 : decode b_S_count 10 = .ok (.iload_n 2, 1) := by decide +kernel
theorem d_S_count_11 : decode b_S_count 11 = .ok (.tableswitch 75 0 3 #[29, 42, 55, 65], 29) := by decide +kernel
theorem d_S_count_40 : decode b_S_count 40 = .ok (.aload_n 0, 1) := by decide +kernel
theorem d_S_count_41 : decode b_S_count 41 = .ok (.getfield 22, 3) := by decide +kernel
theorem d_S_count_44 : decode b_S_count 44 = .ok (.iload_n 1, 1) := by decide +kernel
theorem d_S_count_45 : decode b_S_count 45 = .ok (.aaload, 1) := by decide +kernel
theorem d_S_count_46 : decode b_S_count 46 = .ok (.getfield 109, 3) := by decide +kernel
theorem d_S_count_49 : decode b_S_count 49 = .ok (.getfield 162, 3) := by decide +kernel
theorem d_S_count_52 : decode b_S_count 52 = .ok (.ireturn, 1) := by decide +kernel
theorem d_S_count_53 : decode b_S_count 53 = .ok (.aload_n 0, 1) := by decide +kernel
theorem d_S_count_54 : decode b_S_count 54 = .ok (.getfield 22, 3) := by decide +kernel
theorem d_S_count_57 : decode b_S_count 57 = .ok (.iload_n 1, 1) := by decide +kernel
theorem d_S_count_58 : decode b_S_count 58 = .ok (.aaload, 1) := by decide +kernel
theorem d_S_count_59 : decode b_S_count 59 = .ok (.getfield 163, 3) := by decide +kernel
theorem d_S_count_62 : decode b_S_count 62 = .ok (.getfield 162, 3) := by decide +kernel
theorem d_S_count_65 : decode b_S_count 65 = .ok (.ireturn, 1) := by decide +kernel
theorem d_S_count_66 : decode b_S_count 66 = .ok (.aload_n 0, 1) := by decide +kernel
theorem d_S_count_67 : decode b_S_count 67 = .ok (.getfield 22, 3) := by decide +kernel
theorem d_S_count_70 : decode b_S_count 70 = .ok (.iload_n 1, 1) := by decide +kernel
theorem d_S_count_71 : decode b_S_count 71 = .ok (.aaload, 1) := by decide +kernel
theorem d_S_count_72 : decode b_S_count 72 = .ok (.getfield 166, 3) := by decide +kernel
theorem d_S_count_75 : decode b_S_count 75 = .ok (.ireturn, 1) := by decide +kernel
theorem d_S_count_76 : decode b_S_count 76 = .ok (.aload_n 0, 1) := by decide +kernel
theorem d_S_count_77 : decode b_S_count 77 = .ok (.getfield 22, 3) := by decide +kernel
theorem d_S_count_80 : decode b_S_count 80 = .ok (.iload_n 1, 1) := by decide +kernel
theorem d_S_count_81 : decode b_S_count 81 = .ok (.aaload, 1) := by decide +kernel
theorem d_S_count_82 : decode b_S_count 82 = .ok (.getfield 169, 3) := by decide +kernel
theorem d_S_count_85 : decode b_S_count 85 = .ok (.ireturn, 1) := by decide +kernel
theorem d_S_count_86 : decode b_S_count 86 = .ok (.iconst (-1), 1) := by decide +kernel
theorem d_S_count_87 : decode b_S_count 87 = .ok (.ireturn, 1) := by decide +kernel
theorem d_S_cached_0 : decode b_S_cached 0 = .ok (.aload_n 0, 1) := by decide +kernel
theorem d_S_cached_1 : decode b_S_cached 1 = .ok (.iload_n 1, 1) := by decide +kernel
theorem d_S_cached_2 : decode b_S_cached 2 = .ok (.invokevirtual 61, 3) := by decide +kernel
theorem d_S_cached_5 : decode b_S_cached 5 = .ok (.ifCond .eq 20, 3) := by decide +kernel
theorem d_S_cached_8 : decode b_S_cached 8 = .ok (.iload_n 2, 1) := by decide +kernel
theorem d_S_cached_9 : decode b_S_cached 9 = .ok (.ifCond .lt 16, 3) := by decide +kernel
theorem d_S_cached_12 : decode b_S_cached 12 = .ok (.iload_n 2, 1) := by decide +kernel
theorem d_S_cached_13 : decode b_S_cached 13 = .ok (.aload_n 0, 1) := by decide +kernel
theorem d_S_cached_14 : decode b_S_cached 14 = .ok (.getfield 28, 3) := by decide +kernel
theorem d_S_cached_17 : decode b_S_cached 17 = .ok (.iload_n 1, 1) := by decide +kernel
theorem d_S_cached_18 : decode b_S_cached 18 = .ok (.aaload, 1) := by decide +kernel
theorem d_S_cached_19 : decode b_S_cached 19 = .ok (.getfield 172, 3) := by decide +kernel
theorem d_S_cached_22 : decode b_S_cached 22 = .ok (.if_icmp .lt 7, 3) := by decide +kernel
theorem d_S_cached_25 : decode b_S_cached 25 = .ok (.sipush (-9999), 3) := by decide +kernel
theorem d_S_cached_28 : decode b_S_cached 28 = .ok (.ireturn, 1) := by decide +kernel
theorem d_S_cached_29 : decode b_S_cached 29 = .ok (.aload_n 0, 1) := by decide +kernel
theorem d_S_cached_30 : decode b_S_cached 30 = .ok (.getfield 28, 3) := by decide +kernel
theorem d_S_cached_33 : decode b_S_cached 33 = .ok (.iload_n 1, 1) := by decide +kernel
theorem d_S_cached_34 : decode b_S_cached 34 = .ok (.aaload, 1) := by decide +kernel
theorem d_S_cached_35 : decode b_S_cached 35 = .ok (.getfield 175, 3) := by decide +kernel
theorem d_S_cached_38 : decode b_S_cached 38 = .ok (.iload_n 2, 1) := by decide +kernel
theorem d_S_cached_39 : decode b_S_cached 39 = .ok (.iaload, 1) := by decide +kernel
theorem d_S_cached_40 : decode b_S_cached 40 = .ok (.ireturn, 1) := by decide +kernel
theorem d_S_latest_0 : decode b_S_latest 0 = .ok (.aload_n 0, 1) := by decide +kernel
theorem d_S_latest_1 : decode b_S_latest 1 = .ok (.iload_n 1, 1) := by decide +kernel
theorem d_S_latest_2 : decode b_S_latest 2 = .ok (.invokevirtual 61, 3) := by decide +kernel
theorem d_S_latest_5 : decode b_S_latest 5 = .ok (.ifCond .eq 17, 3) := by decide +kernel
theorem d_S_latest_8 : decode b_S_latest 8 = .ok (.aload_n 0, 1) := by decide +kernel
theorem d_S_latest_9 : decode b_S_latest 9 = .ok (.getfield 22, 3) := by decide +kernel
theorem d_S_latest_12 : decode b_S_latest 12 = .ok (.iconst 0, 1) := by decide +kernel
theorem d_S_latest_13 : decode b_S_latest 13 = .ok (.aaload, 1) := by decide +kernel
theorem d_S_latest_14 : decode b_S_latest 14 = .ok (.getfield 178, 3) := by decide +kernel
theorem d_S_latest_17 : decode b_S_latest 17 = .ok (.iload_n 1, 1) := by decide +kernel
theorem d_S_latest_18 : decode b_S_latest 18 = .ok (.iaload, 1) := by decide +kernel
theorem d_S_latest_19 : decode b_S_latest 19 = .ok (.goto 4, 3) := by decide +kernel
theorem d_S_latest_22 : decode b_S_latest 22 = .ok (.iconst (-1), 1) := by decide +kernel
theorem d_S_latest_23 : decode b_S_latest 23 = .ok (.ireturn, 1) := by decide +kernel
theorem d_S_actuator_0 : decode b_S_actuator 0 = .ok (.aload_n 0, 1) := by decide +kernel
theorem d_S_actuator_1 : decode b_S_actuator 1 = .ok (.iload_n 1, 1) := by decide +kernel
theorem d_S_actuator_2 : decode b_S_actuator 2 = .ok (.invokevirtual 86, 3) := by decide +kernel
theorem d_S_actuator_5 : decode b_S_actuator 5 = .ok (.ifCond .eq 15, 3) := by decide +kernel
theorem d_S_actuator_8 : decode b_S_actuator 8 = .ok (.aload_n 0, 1) := by decide +kernel
theorem d_S_actuator_9 : decode b_S_actuator 9 = .ok (.getfield 22, 3) := by decide +kernel
theorem d_S_actuator_12 : decode b_S_actuator 12 = .ok (.iload_n 1, 1) := by decide +kernel
theorem d_S_actuator_13 : decode b_S_actuator 13 = .ok (.aaload, 1) := by decide +kernel
theorem d_S_actuator_14 : decode b_S_actuator 14 = .ok (.getfield 181, 3) := by decide +kernel
theorem d_S_actuator_17 : decode b_S_actuator 17 = .ok (.goto 6, 3) := by decide +kernel
theorem d_S_actuator_20 : decode b_S_actuator 20 = .ok (.sipush (-9999), 3) := by decide +kernel
theorem d_S_actuator_23 : decode b_S_actuator 23 = .ok (.ireturn, 1) := by decide +kernel
theorem d_S_sent_0 : decode b_S_sent 0 = .ok (.aload_n 0, 1) := by decide +kernel
theorem d_S_sent_1 : decode b_S_sent 1 = .ok (.getfield 58, 3) := by decide +kernel
theorem d_S_sent_4 : decode b_S_sent 4 = .ok (.ireturn, 1) := by decide +kernel
theorem d_S_nearest_0 : decode b_S_nearest 0 = .ok (.iload_n 1, 1) := by decide +kernel
theorem d_S_nearest_1 : decode b_S_nearest 1 = .ok (.iload_n 2, 1) := by decide +kernel
theorem d_S_nearest_2 : decode b_S_nearest 2 = .ok (.iload_n 0, 1) := by decide +kernel
theorem d_S_nearest_3 : decode b_S_nearest 3 = .ok (.invokestatic 184, 3) := by decide +kernel
theorem d_S_nearest_6 : decode b_S_nearest 6 = .ok (.invokestatic 187, 3) := by decide +kernel
theorem d_S_nearest_9 : decode b_S_nearest 9 = .ok (.ireturn, 1) := by decide +kernel
theorem d_S_isWithin_0 : decode b_S_isWithin 0 = .ok (.iload_n 0, 1) := by decide +kernel
theorem d_S_isWithin_1 : decode b_S_isWithin 1 = .ok (.iload_n 1, 1) := by decide +kernel
theorem d_S_isWithin_2 : decode b_S_isWithin 2 = .ok (.if_icmp .lt 12, 3) := by decide +kernel
theorem d_S_isWithin_5 : decode b_S_isWithin 5 = .ok (.iload_n 0, 1) := by decide +kernel
theorem d_S_isWithin_6 : decode b_S_isWithin 6 = .ok (.iload_n 2, 1) := by decide +kernel
theorem d_S_isWithin_7 : decode b_S_isWithin 7 = .ok (.if_icmp .gt 7, 3) := by decide +kernel
theorem d_S_isWithin_10 : decode b_S_isWithin 10 = .ok (.iconst 1, 1) := by decide +kernel
theorem d_S_isWithin_11 : decode b_S_isWithin 11 = .ok (.goto 4, 3) := by decide +kernel
theorem d_S_isWithin_14 : decode b_S_isWithin 14 = .ok (.iconst 0, 1) := by decide +kernel
theorem d_S_isWithin_15 : decode b_S_isWithin 15 = .ok (.ireturn, 1) := by decide +kernel
theorem d_S_isNode_0 : decode b_S_isNode 0 = .ok (.iload_n 1, 1) := by decide +kernel
theorem d_S_isNode_1 : decode b_S_isNode 1 = .ok (.ifCond .lt 16, 3) := by decide +kernel
theorem d_S_isNode_4 : decode b_S_isNode 4 = .ok (.iload_n 1, 1) := by decide +kernel
theorem d_S_isNode_5 : decode b_S_isNode 5 = .ok (.aload_n 0, 1) := by decide +kernel
theorem d_S_isNode_6 : decode b_S_isNode 6 = .ok (.getfield 22, 3) := by decide +kernel
theorem d_S_isNode_9 : decode b_S_isNode 9 = .ok (.arraylength, 1) := by decide +kernel
theorem d_S_isNode_10 : decode b_S_isNode 10 = .ok (.if_icmp .ge 7, 3) := by decide +kernel
theorem d_S_isNode_13 : decode b_S_isNode 13 = .ok (.iconst 1, 1) := by decide +kernel
theorem d_S_isNode_14 : decode b_S_isNode 14 = .ok (.goto 4, 3) := by decide +kernel
theorem d_S_isNode_17 : decode b_S_isNode 17 = .ok (.iconst 0, 1) := by decide +kernel
theorem d_S_isNode_18 : decode b_S_isNode 18 = .ok (.ireturn, 1) := by decide +kernel
theorem d_S_isFieldNode_0 : decode b_S_isFieldNode 0 = .ok (.aload_n 0, 1) := by decide +kernel
theorem d_S_isFieldNode_1 : decode b_S_isFieldNode 1 = .ok (.iload_n 1, 1) := by decide +kernel
theorem d_S_isFieldNode_2 : decode b_S_isFieldNode 2 = .ok (.invokevirtual 61, 3) := by decide +kernel
theorem d_S_isFieldNode_5 : decode b_S_isFieldNode 5 = .ok (.ifCond .eq 11, 3) := by decide +kernel
theorem d_S_isFieldNode_8 : decode b_S_isFieldNode 8 = .ok (.iload_n 1, 1) := by decide +kernel
theorem d_S_isFieldNode_9 : decode b_S_isFieldNode 9 = .ok (.ifCond .eq 7, 3) := by decide +kernel
theorem d_S_isFieldNode_12 : decode b_S_isFieldNode 12 = .ok (.iconst 1, 1) := by decide +kernel
theorem d_S_isFieldNode_13 : decode b_S_isFieldNode 13 = .ok (.goto 4, 3) := by decide +kernel
theorem d_S_isFieldNode_16 : decode b_S_isFieldNode 16 = .ok (.iconst 0, 1) := by decide +kernel
theorem d_S_isFieldNode_17 : decode b_S_isFieldNode 17 = .ok (.ireturn, 1) := by decide +kernel
theorem d_S_isChannel_0 : decode b_S_isChannel 0 = .ok (.iload_n 1, 1) := by decide +kernel
theorem d_S_isChannel_1 : decode b_S_isChannel 1 = .ok (.ifCond .lt 15, 3) := by decide +kernel
theorem d_S_isChannel_4 : decode b_S_isChannel 4 = .ok (.iload_n 1, 1) := by decide +kernel
theorem d_S_isChannel_5 : decode b_S_isChannel 5 = .ok (.aload_n 0, 1) := by decide +kernel
theorem d_S_isChannel_6 : decode b_S_isChannel 6 = .ok (.getfield 17, 3) := by decide +kernel
theorem d_S_isChannel_9 : decode b_S_isChannel 9 = .ok (.if_icmp .ge 7, 3) := by decide +kernel
theorem d_S_isChannel_12 : decode b_S_isChannel 12 = .ok (.iconst 1, 1) := by decide +kernel
theorem d_S_isChannel_13 : decode b_S_isChannel 13 = .ok (.goto 4, 3) := by decide +kernel
theorem d_S_isChannel_16 : decode b_S_isChannel 16 = .ok (.iconst 0, 1) := by decide +kernel
theorem d_S_isChannel_17 : decode b_S_isChannel 17 = .ok (.ireturn, 1) := by decide +kernel
theorem d_S_driftClocks_0 : decode b_S_driftClocks 0 = .ok (.iconst 0, 1) := by decide +kernel
theorem d_S_driftClocks_1 : decode b_S_driftClocks 1 = .ok (.istore_n 1, 1) := by decide +kernel
theorem d_S_driftClocks_2 : decode b_S_driftClocks 2 = .ok (.iload_n 1, 1) := by decide +kernel
theorem d_S_driftClocks_3 : decode b_S_driftClocks 3 = .ok (.aload_n 0, 1) := by decide +kernel
theorem d_S_driftClocks_4 : decode b_S_driftClocks 4 = .ok (.getfield 22, 3) := by decide +kernel
theorem d_S_driftClocks_7 : decode b_S_driftClocks 7 = .ok (.arraylength, 1) := by decide +kernel
theorem d_S_driftClocks_8 : decode b_S_driftClocks 8 = .ok (.if_icmp .ge 44, 3) := by decide +kernel
theorem d_S_driftClocks_11 : decode b_S_driftClocks 11 = .ok (.aload_n 0, 1) := by decide +kernel
theorem d_S_driftClocks_12 : decode b_S_driftClocks 12 = .ok (.getfield 22, 3) := by decide +kernel
theorem d_S_driftClocks_15 : decode b_S_driftClocks 15 = .ok (.iload_n 1, 1) := by decide +kernel
theorem d_S_driftClocks_16 : decode b_S_driftClocks 16 = .ok (.aaload, 1) := by decide +kernel
theorem d_S_driftClocks_17 : decode b_S_driftClocks 17 = .ok (.getfield 79, 3) := by decide +kernel
theorem d_S_driftClocks_20 : decode b_S_driftClocks 20 = .ok (.ifCond .eq 26, 3) := by decide +kernel
theorem d_S_driftClocks_23 : decode b_S_driftClocks 23 = .ok (.aload_n 0, 1) := by decide +kernel
theorem d_S_driftClocks_24 : decode b_S_driftClocks 24 = .ok (.getfield 22, 3) := by decide +kernel
theorem d_S_driftClocks_27 : decode b_S_driftClocks 27 = .ok (.iload_n 1, 1) := by decide +kernel
theorem d_S_driftClocks_28 : decode b_S_driftClocks 28 = .ok (.aaload, 1) := by decide +kernel
theorem d_S_driftClocks_29 : decode b_S_driftClocks 29 = .ok (.dup, 1) := by decide +kernel
theorem d_S_driftClocks_30 : decode b_S_driftClocks 30 = .ok (.getfield 159, 3) := by decide +kernel
theorem d_S_driftClocks_33 : decode b_S_driftClocks 33 = .ok (.aload_n 0, 1) := by decide +kernel
theorem d_S_driftClocks_34 : decode b_S_driftClocks 34 = .ok (.getfield 22, 3) := by decide +kernel
theorem d_S_driftClocks_37 : decode b_S_driftClocks 37 = .ok (.iload_n 1, 1) := by decide +kernel
theorem d_S_driftClocks_38 : decode b_S_driftClocks 38 = .ok (.aaload, 1) := by decide +kernel
theorem d_S_driftClocks_39 : decode b_S_driftClocks 39 = .ok (.getfield 96, 3) := by decide +kernel
theorem d_S_driftClocks_42 : decode b_S_driftClocks 42 = .ok (.iadd, 1) := by decide +kernel
theorem d_S_driftClocks_43 : decode b_S_driftClocks 43 = .ok (.putfield 159, 3) := by decide +kernel
theorem d_S_driftClocks_46 : decode b_S_driftClocks 46 = .ok (.iinc 1 1, 3) := by decide +kernel
theorem d_S_driftClocks_49 : decode b_S_driftClocks 49 = .ok (.goto (-47), 3) := by decide +kernel
theorem d_S_driftClocks_52 : decode b_S_driftClocks 52 = .ok (.return_, 1) := by decide +kernel
theorem d_S_playCells_0 : decode b_S_playCells 0 = .ok (.iconst 0, 1) := by decide +kernel
theorem d_S_playCells_1 : decode b_S_playCells 1 = .ok (.istore_n 2, 1) := by decide +kernel
theorem d_S_playCells_2 : decode b_S_playCells 2 = .ok (.iload_n 2, 1) := by decide +kernel
theorem d_S_playCells_3 : decode b_S_playCells 3 = .ok (.aload_n 0, 1) := by decide +kernel
theorem d_S_playCells_4 : decode b_S_playCells 4 = .ok (.getfield 17, 3) := by decide +kernel
theorem d_S_playCells_7 : decode b_S_playCells 7 = .ok (.if_icmp .ge 140, 3) := by decide +kernel
theorem d_S_playCells_10 : decode b_S_playCells 10 = .ok (.aload_n 0, 1) := by decide +kernel
theorem d_S_playCells_11 : decode b_S_playCells 11 = .ok (.getfield 48, 3) := by decide +kernel
theorem d_S_playCells_14 : decode b_S_playCells 14 = .ok (.iload_n 1, 1) := by decide +kernel
theorem d_S_playCells_15 : decode b_S_playCells 15 = .ok (.iload_n 2, 1) := by decide +kernel
theorem d_S_playCells_16 : decode b_S_playCells 16 = .ok (.invokevirtual 156, 3) := by decide +kernel
theorem d_S_playCells_19 : decode b_S_playCells 19 = .ok (.istore_n 3, 1) := by decide +kernel
theorem d_S_playCells_20 : decode b_S_playCells 20 = .ok (.aload_n 0, 1) := by decide +kernel
theorem d_S_playCells_21 : decode b_S_playCells 21 = .ok (.getfield 22, 3) := by decide +kernel
theorem d_S_playCells_24 : decode b_S_playCells 24 = .ok (.iload_n 3, 1) := by decide +kernel
theorem d_S_playCells_25 : decode b_S_playCells 25 = .ok (.invokestatic 190, 3) := by decide +kernel
theorem d_S_playCells_28 : decode b_S_playCells 28 = .ok (.aaload, 1) := by decide +kernel
theorem d_S_playCells_29 : decode b_S_playCells 29 = .ok (.astore 4, 2) := by decide +kernel
theorem d_S_playCells_31 : decode b_S_playCells 31 = .ok (.aload_n 0, 1) := by decide +kernel
theorem d_S_playCells_32 : decode b_S_playCells 32 = .ok (.getfield 22, 3) := by decide +kernel
theorem d_S_playCells_35 : decode b_S_playCells 35 = .ok (.iload_n 3, 1) := by decide +kernel
theorem d_S_playCells_36 : decode b_S_playCells 36 = .ok (.invokestatic 194, 3) := by decide +kernel
theorem d_S_playCells_39 : decode b_S_playCells 39 = .ok (.aaload, 1) := by decide +kernel
theorem d_S_playCells_40 : decode b_S_playCells 40 = .ok (.astore 5, 2) := by decide +kernel
theorem d_S_playCells_42 : decode b_S_playCells 42 = .ok (.aload_n 0, 1) := by decide +kernel
theorem d_S_playCells_43 : decode b_S_playCells 43 = .ok (.getfield 38, 3) := by decide +kernel
theorem d_S_playCells_46 : decode b_S_playCells 46 = .ok (.iload_n 2, 1) := by decide +kernel
theorem d_S_playCells_47 : decode b_S_playCells 47 = .ok (.aload_n 0, 1) := by decide +kernel
theorem d_S_playCells_48 : decode b_S_playCells 48 = .ok (.getfield 55, 3) := by decide +kernel
theorem d_S_playCells_51 : decode b_S_playCells 51 = .ok (.iadd, 1) := by decide +kernel
theorem d_S_playCells_52 : decode b_S_playCells 52 = .ok (.aload_n 0, 1) := by decide +kernel
theorem d_S_playCells_53 : decode b_S_playCells 53 = .ok (.getfield 17, 3) := by decide +kernel
theorem d_S_playCells_56 : decode b_S_playCells 56 = .ok (.invokestatic 136, 3) := by decide +kernel
theorem d_S_playCells_59 : decode b_S_playCells 59 = .ok (.aaload, 1) := by decide +kernel
theorem d_S_playCells_60 : decode b_S_playCells 60 = .ok (.astore 6, 2) := by decide +kernel
theorem d_S_playCells_62 : decode b_S_playCells 62 = .ok (.iload_n 3, 1) := by decide +kernel
theorem d_S_playCells_63 : decode b_S_playCells 63 = .ok (.invokestatic 197, 3) := by decide +kernel
theorem d_S_playCells_66 : decode b_S_playCells 66 = .ok (.lookupswitch 75 #[(100, 34), (200, 49), (300, 62)], 34) := by decide +kernel
theorem d_S_playCells_100 : decode b_S_playCells 100 = .ok (.iload_n 2, 1) := by decide +kernel
theorem d_S_playCells_101 : decode b_S_playCells 101 = .ok (.ifCond .ne 40, 3) := by decide +kernel
theorem d_S_playCells_104 : decode b_S_playCells 104 = .ok (.aload_n 0, 1) := by decide +kernel
theorem d_S_playCells_105 : decode b_S_playCells 105 = .ok (.aload 4, 2) := by decide +kernel
theorem d_S_playCells_107 : decode b_S_playCells 107 = .ok (.aload 6, 2) := by decide +kernel
theorem d_S_playCells_109 : decode b_S_playCells 109 = .ok (.invokevirtual 200, 3) := by decide +kernel
theorem d_S_playCells_112 : decode b_S_playCells 112 = .ok (.goto 29, 3) := by decide +kernel
theorem d_S_playCells_115 : decode b_S_playCells 115 = .ok (.aload_n 0, 1) := by decide +kernel
theorem d_S_playCells_116 : decode b_S_playCells 116 = .ok (.aload 4, 2) := by decide +kernel
theorem d_S_playCells_118 : decode b_S_playCells 118 = .ok (.aload 5, 2) := by decide +kernel
theorem d_S_playCells_120 : decode b_S_playCells 120 = .ok (.aload 6, 2) := by decide +kernel
theorem d_S_playCells_122 : decode b_S_playCells 122 = .ok (.invokevirtual 204, 3) := by decide +kernel
theorem d_S_playCells_125 : decode b_S_playCells 125 = .ok (.goto 16, 3) := by decide +kernel
theorem d_S_playCells_128 : decode b_S_playCells 128 = .ok (.aload_n 0, 1) := by decide +kernel
theorem d_S_playCells_129 : decode b_S_playCells 129 = .ok (.aload 4, 2) := by decide +kernel
theorem d_S_playCells_131 : decode b_S_playCells 131 = .ok (.aload 5, 2) := by decide +kernel
theorem d_S_playCells_133 : decode b_S_playCells 133 = .ok (.aload 6, 2) := by decide +kernel
theorem d_S_playCells_135 : decode b_S_playCells 135 = .ok (.invokevirtual 208, 3) := by decide +kernel
theorem d_S_playCells_138 : decode b_S_playCells 138 = .ok (.goto 3, 3) := by decide +kernel
theorem d_S_playCells_141 : decode b_S_playCells 141 = .ok (.iinc 2 1, 3) := by decide +kernel
theorem d_S_playCells_144 : decode b_S_playCells 144 = .ok (.goto (-142), 3) := by decide +kernel
theorem d_S_playCells_147 : decode b_S_playCells 147 = .ok (.return_, 1) := by decide +kernel
theorem d_S_advertise_0 : decode b_S_advertise 0 = .ok (.aload_n 1, 1) := by decide +kernel
theorem d_S_advertise_1 : decode b_S_advertise 1 = .ok (.getfield 83, 3) := by decide +kernel
theorem d_S_advertise_4 : decode b_S_advertise 4 = .ok (.ifCond .eq 14, 3) := by decide +kernel
theorem d_S_advertise_7 : decode b_S_advertise 7 = .ok (.aload_n 2, 1) := by decide +kernel
theorem d_S_advertise_8 : decode b_S_advertise 8 = .ok (.aload_n 0, 1) := by decide +kernel
theorem d_S_advertise_9 : decode b_S_advertise 9 = .ok (.getfield 55, 3) := by decide +kernel
theorem d_S_advertise_12 : decode b_S_advertise 12 = .ok (.invokevirtual 211, 3) := by decide +kernel
theorem d_S_advertise_15 : decode b_S_advertise 15 = .ok (.ifCond .ne 4, 3) := by decide +kernel
theorem d_S_advertise_18 : decode b_S_advertise 18 = .ok (.return_, 1) := by decide +kernel
theorem d_S_advertise_19 : decode b_S_advertise 19 = .ok (.iconst 0, 1) := by decide +kernel
theorem d_S_advertise_20 : decode b_S_advertise 20 = .ok (.istore_n 3, 1) := by decide +kernel
theorem d_S_advertise_21 : decode b_S_advertise 21 = .ok (.iload_n 3, 1) := by decide +kernel
theorem d_S_advertise_22 : decode b_S_advertise 22 = .ok (.aload_n 0, 1) := by decide +kernel
theorem d_S_advertise_23 : decode b_S_advertise 23 = .ok (.getfield 22, 3) := by decide +kernel
theorem d_S_advertise_26 : decode b_S_advertise 26 = .ok (.arraylength, 1) := by decide +kernel
theorem d_S_advertise_27 : decode b_S_advertise 27 = .ok (.if_icmp .ge 41, 3) := by decide +kernel
theorem d_S_advertise_30 : decode b_S_advertise 30 = .ok (.aload_n 1, 1) := by decide +kernel
theorem d_S_advertise_31 : decode b_S_advertise 31 = .ok (.getfield 65, 3) := by decide +kernel
theorem d_S_advertise_34 : decode b_S_advertise 34 = .ok (.iload_n 3, 1) := by decide +kernel
theorem d_S_advertise_35 : decode b_S_advertise 35 = .ok (.baload, 1) := by decide +kernel
theorem d_S_advertise_36 : decode b_S_advertise 36 = .ok (.ifCond .eq 26, 3) := by decide +kernel
theorem d_S_advertise_39 : decode b_S_advertise 39 = .ok (.aload_n 0, 1) := by decide +kernel
theorem d_S_advertise_40 : decode b_S_advertise 40 = .ok (.getfield 22, 3) := by decide +kernel
theorem d_S_advertise_43 : decode b_S_advertise 43 = .ok (.iload_n 3, 1) := by decide +kernel
theorem d_S_advertise_44 : decode b_S_advertise 44 = .ok (.aaload, 1) := by decide +kernel
theorem d_S_advertise_45 : decode b_S_advertise 45 = .ok (.getfield 79, 3) := by decide +kernel
theorem d_S_advertise_48 : decode b_S_advertise 48 = .ok (.ifCond .eq 14, 3) := by decide +kernel
theorem d_S_advertise_51 : decode b_S_advertise 51 = .ok (.aload_n 0, 1) := by decide +kernel
theorem d_S_advertise_52 : decode b_S_advertise 52 = .ok (.aload_n 0, 1) := by decide +kernel
theorem d_S_advertise_53 : decode b_S_advertise 53 = .ok (.getfield 22, 3) := by decide +kernel
theorem d_S_advertise_56 : decode b_S_advertise 56 = .ok (.iload_n 3, 1) := by decide +kernel
theorem d_S_advertise_57 : decode b_S_advertise 57 = .ok (.aaload, 1) := by decide +kernel
theorem d_S_advertise_58 : decode b_S_advertise 58 = .ok (.aload_n 1, 1) := by decide +kernel
theorem d_S_advertise_59 : decode b_S_advertise 59 = .ok (.invokevirtual 214, 3) := by decide +kernel
theorem d_S_advertise_62 : decode b_S_advertise 62 = .ok (.iinc 3 1, 3) := by decide +kernel
theorem d_S_advertise_65 : decode b_S_advertise 65 = .ok (.goto (-44), 3) := by decide +kernel
theorem d_S_advertise_68 : decode b_S_advertise 68 = .ok (.return_, 1) := by decide +kernel
theorem d_S_answerAdvert_0 : decode b_S_answerAdvert 0 = .ok (.aload_n 1, 1) := by decide +kernel
theorem d_S_answerAdvert_1 : decode b_S_answerAdvert 1 = .ok (.getfield 83, 3) := by decide +kernel
theorem d_S_answerAdvert_4 : decode b_S_answerAdvert 4 = .ok (.ifCond .ne 24, 3) := by decide +kernel
theorem d_S_answerAdvert_7 : decode b_S_answerAdvert 7 = .ok (.aload_n 1, 1) := by decide +kernel
theorem d_S_answerAdvert_8 : decode b_S_answerAdvert 8 = .ok (.iconst 1, 1) := by decide +kernel
theorem d_S_answerAdvert_9 : decode b_S_answerAdvert 9 = .ok (.putfield 83, 3) := by decide +kernel
theorem d_S_answerAdvert_12 : decode b_S_answerAdvert 12 = .ok (.aload_n 1, 1) := by decide +kernel
theorem d_S_answerAdvert_13 : decode b_S_answerAdvert 13 = .ok (.aload_n 2, 1) := by decide +kernel
theorem d_S_answerAdvert_14 : decode b_S_answerAdvert 14 = .ok (.getfield 159, 3) := by decide +kernel
theorem d_S_answerAdvert_17 : decode b_S_answerAdvert 17 = .ok (.putfield 159, 3) := by decide +kernel
theorem d_S_answerAdvert_20 : decode b_S_answerAdvert 20 = .ok (.aload_n 1, 1) := by decide +kernel
theorem d_S_answerAdvert_21 : decode b_S_answerAdvert 21 = .ok (.iconst 0, 1) := by decide +kernel
theorem d_S_answerAdvert_22 : decode b_S_answerAdvert 22 = .ok (.putfield 166, 3) := by decide +kernel
theorem d_S_answerAdvert_25 : decode b_S_answerAdvert 25 = .ok (.goto 38, 3) := by decide +kernel
theorem d_S_answerAdvert_28 : decode b_S_answerAdvert 28 = .ok (.aload_n 0, 1) := by decide +kernel
theorem d_S_answerAdvert_29 : decode b_S_answerAdvert 29 = .ok (.getfield 48, 3) := by decide +kernel
theorem d_S_answerAdvert_32 : decode b_S_answerAdvert 32 = .ok (.getfield 150, 3) := by decide +kernel
theorem d_S_answerAdvert_35 : decode b_S_answerAdvert 35 = .ok (.aload_n 1, 1) := by decide +kernel
theorem d_S_answerAdvert_36 : decode b_S_answerAdvert 36 = .ok (.getfield 218, 3) := by decide +kernel
theorem d_S_answerAdvert_39 : decode b_S_answerAdvert 39 = .ok (.iaload, 1) := by decide +kernel
theorem d_S_answerAdvert_40 : decode b_S_answerAdvert 40 = .ok (.aload_n 2, 1) := by decide +kernel
theorem d_S_answerAdvert_41 : decode b_S_answerAdvert 41 = .ok (.getfield 218, 3) := by decide +kernel
theorem d_S_answerAdvert_44 : decode b_S_answerAdvert 44 = .ok (.if_icmp .ne 19, 3) := by decide +kernel
theorem d_S_answerAdvert_47 : decode b_S_answerAdvert 47 = .ok (.aload_n 1, 1) := by decide +kernel
theorem d_S_answerAdvert_48 : decode b_S_answerAdvert 48 = .ok (.aload_n 2, 1) := by decide +kernel
theorem d_S_answerAdvert_49 : decode b_S_answerAdvert 49 = .ok (.invokevirtual 221, 3) := by decide +kernel
theorem d_S_answerAdvert_52 : decode b_S_answerAdvert 52 = .ok (.ifCond .eq 11, 3) := by decide +kernel
theorem d_S_answerAdvert_55 : decode b_S_answerAdvert 55 = .ok (.aload_n 1, 1) := by decide +kernel
theorem d_S_answerAdvert_56 : decode b_S_answerAdvert 56 = .ok (.aload_n 2, 1) := by decide +kernel
theorem d_S_answerAdvert_57 : decode b_S_answerAdvert 57 = .ok (.getfield 159, 3) := by decide +kernel
theorem d_S_answerAdvert_60 : decode b_S_answerAdvert 60 = .ok (.putfield 159, 3) := by decide +kernel
theorem d_S_answerAdvert_63 : decode b_S_answerAdvert 63 = .ok (.return_, 1) := by decide +kernel
theorem d_S_hears_0 : decode b_S_hears 0 = .ok (.aload_n 1, 1) := by decide +kernel
theorem d_S_hears_1 : decode b_S_hears 1 = .ok (.getfield 83, 3) := by decide +kernel
theorem d_S_hears_4 : decode b_S_hears 4 = .ok (.ifCond .eq 38, 3) := by decide +kernel
theorem d_S_hears_7 : decode b_S_hears 7 = .ok (.aload_n 1, 1) := by decide +kernel
theorem d_S_hears_8 : decode b_S_hears 8 = .ok (.getfield 65, 3) := by decide +kernel
theorem d_S_hears_11 : decode b_S_hears 11 = .ok (.aload_n 2, 1) := by decide +kernel
theorem d_S_hears_12 : decode b_S_hears 12 = .ok (.getfield 218, 3) := by decide +kernel
theorem d_S_hears_15 : decode b_S_hears 15 = .ok (.baload, 1) := by decide +kernel
theorem d_S_hears_16 : decode b_S_hears 16 = .ok (.ifCond .eq 26, 3) := by decide +kernel
theorem d_S_hears_19 : decode b_S_hears 19 = .ok (.aload_n 1, 1) := by decide +kernel
theorem d_S_hears_20 : decode b_S_hears 20 = .ok (.aload_n 2, 1) := by decide +kernel
theorem d_S_hears_21 : decode b_S_hears 21 = .ok (.invokevirtual 221, 3) := by decide +kernel
theorem d_S_hears_24 : decode b_S_hears 24 = .ok (.ifCond .eq 18, 3) := by decide +kernel
theorem d_S_hears_27 : decode b_S_hears 27 = .ok (.aload_n 3, 1) := by decide +kernel
theorem d_S_hears_28 : decode b_S_hears 28 = .ok (.aload_n 0, 1) := by decide +kernel
theorem d_S_hears_29 : decode b_S_hears 29 = .ok (.getfield 55, 3) := by decide +kernel
theorem d_S_hears_32 : decode b_S_hears 32 = .ok (.invokevirtual 211, 3) := by decide +kernel
theorem d_S_hears_35 : decode b_S_hears 35 = .ok (.ifCond .eq 7, 3) := by decide +kernel
theorem d_S_hears_38 : decode b_S_hears 38 = .ok (.iconst 1, 1) := by decide +kernel
theorem d_S_hears_39 : decode b_S_hears 39 = .ok (.goto 4, 3) := by decide +kernel
theorem d_S_hears_42 : decode b_S_hears 42 = .ok (.iconst 0, 1) := by decide +kernel
theorem d_S_hears_43 : decode b_S_hears 43 = .ok (.ireturn, 1) := by decide +kernel
theorem d_S_sendUp_0 : decode b_S_sendUp 0 = .ok (.aload_n 1, 1) := by decide +kernel
theorem d_S_sendUp_1 : decode b_S_sendUp 1 = .ok (.getfield 83, 3) := by decide +kernel
theorem d_S_sendUp_4 : decode b_S_sendUp 4 = .ok (.ifCond .eq 13, 3) := by decide +kernel
theorem d_S_sendUp_7 : decode b_S_sendUp 7 = .ok (.aload_n 1, 1) := by decide +kernel
theorem d_S_sendUp_8 : decode b_S_sendUp 8 = .ok (.getfield 109, 3) := by decide +kernel
theorem d_S_sendUp_11 : decode b_S_sendUp 11 = .ok (.getfield 162, 3) := by decide +kernel
theorem d_S_sendUp_14 : decode b_S_sendUp 14 = .ok (.ifCond .ne 4, 3) := by decide +kernel
theorem d_S_sendUp_17 : decode b_S_sendUp 17 = .ok (.return_, 1) := by decide +kernel
theorem d_S_sendUp_18 : decode b_S_sendUp 18 = .ok (.aload_n 0, 1) := by decide +kernel
theorem d_S_sendUp_19 : decode b_S_sendUp 19 = .ok (.dup, 1) := by decide +kernel
theorem d_S_sendUp_20 : decode b_S_sendUp 20 = .ok (.getfield 58, 3) := by decide +kernel
theorem d_S_sendUp_23 : decode b_S_sendUp 23 = .ok (.iconst 1, 1) := by decide +kernel
theorem d_S_sendUp_24 : decode b_S_sendUp 24 = .ok (.iadd, 1) := by decide +kernel
theorem d_S_sendUp_25 : decode b_S_sendUp 25 = .ok (.putfield 58, 3) := by decide +kernel
theorem d_S_sendUp_28 : decode b_S_sendUp 28 = .ok (.aload_n 0, 1) := by decide +kernel
theorem d_S_sendUp_29 : decode b_S_sendUp 29 = .ok (.aload_n 2, 1) := by decide +kernel
theorem d_S_sendUp_30 : decode b_S_sendUp 30 = .ok (.aload_n 1, 1) := by decide +kernel
theorem d_S_sendUp_31 : decode b_S_sendUp 31 = .ok (.aload_n 3, 1) := by decide +kernel
theorem d_S_sendUp_32 : decode b_S_sendUp 32 = .ok (.invokevirtual 225, 3) := by decide +kernel
theorem d_S_sendUp_35 : decode b_S_sendUp 35 = .ok (.ifCond .eq 19, 3) := by decide +kernel
theorem d_S_sendUp_38 : decode b_S_sendUp 38 = .ok (.aload_n 0, 1) := by decide +kernel
theorem d_S_sendUp_39 : decode b_S_sendUp 39 = .ok (.aload_n 1, 1) := by decide +kernel
theorem d_S_sendUp_40 : decode b_S_sendUp 40 = .ok (.getfield 109, 3) := by decide +kernel
theorem d_S_sendUp_43 : decode b_S_sendUp 43 = .ok (.aload_n 2, 1) := by decide +kernel
theorem d_S_sendUp_44 : decode b_S_sendUp 44 = .ok (.invokevirtual 229, 3) := by decide +kernel
theorem d_S_sendUp_47 : decode b_S_sendUp 47 = .ok (.ifCond .eq 7, 3) := by decide +kernel
theorem d_S_sendUp_50 : decode b_S_sendUp 50 = .ok (.iconst 1, 1) := by decide +kernel
theorem d_S_sendUp_51 : decode b_S_sendUp 51 = .ok (.goto 4, 3) := by decide +kernel
theorem d_S_sendUp_54 : decode b_S_sendUp 54 = .ok (.iconst 0, 1) := by decide +kernel
theorem d_S_sendUp_55 : decode b_S_sendUp 55 = .ok (.istore 4, 2) := by decide +kernel
theorem d_S_sendUp_57 : decode b_S_sendUp 57 = .ok (.iload 4, 2) := by decide +kernel
theorem d_S_sendUp_59 : decode b_S_sendUp 59 = .ok (.ifCond .eq 14, 3) := by decide +kernel
theorem d_S_sendUp_62 : decode b_S_sendUp 62 = .ok (.aload_n 3, 1) := by decide +kernel
theorem d_S_sendUp_63 : decode b_S_sendUp 63 = .ok (.aload_n 0, 1) := by decide +kernel
theorem d_S_sendUp_64 : decode b_S_sendUp 64 = .ok (.getfield 55, 3) := by decide +kernel
theorem d_S_sendUp_67 : decode b_S_sendUp 67 = .ok (.invokevirtual 233, 3) := by decide +kernel
theorem d_S_sendUp_70 : decode b_S_sendUp 70 = .ok (.ifCond .ne 8, 3) := by decide +kernel
theorem d_S_sendUp_73 : decode b_S_sendUp 73 = .ok (.aload_n 1, 1) := by decide +kernel
theorem d_S_sendUp_74 : decode b_S_sendUp 74 = .ok (.invokevirtual 236, 3) := by decide +kernel
theorem d_S_sendUp_77 : decode b_S_sendUp 77 = .ok (.return_, 1) := by decide +kernel
theorem d_S_sendUp_78 : decode b_S_sendUp 78 = .ok (.aload_n 1, 1) := by decide +kernel
theorem d_S_sendUp_79 : decode b_S_sendUp 79 = .ok (.getfield 109, 3) := by decide +kernel
theorem d_S_sendUp_82 : decode b_S_sendUp 82 = .ok (.invokevirtual 239, 3) := by decide +kernel
theorem d_S_sendUp_85 : decode b_S_sendUp 85 = .ok (.aload_n 1, 1) := by decide +kernel
theorem d_S_sendUp_86 : decode b_S_sendUp 86 = .ok (.iconst 0, 1) := by decide +kernel
theorem d_S_sendUp_87 : decode b_S_sendUp 87 = .ok (.putfield 166, 3) := by decide +kernel
theorem d_S_sendUp_90 : decode b_S_sendUp 90 = .ok (.aload_n 0, 1) := by decide +kernel
theorem d_S_sendUp_91 : decode b_S_sendUp 91 = .ok (.getfield 48, 3) := by decide +kernel
theorem d_S_sendUp_94 : decode b_S_sendUp 94 = .ok (.getfield 150, 3) := by decide +kernel
theorem d_S_sendUp_97 : decode b_S_sendUp 97 = .ok (.aload_n 1, 1) := by decide +kernel
theorem d_S_sendUp_98 : decode b_S_sendUp 98 = .ok (.getfield 218, 3) := by decide +kernel
theorem d_S_sendUp_101 : decode b_S_sendUp 101 = .ok (.iaload, 1) := by decide +kernel
theorem d_S_sendUp_102 : decode b_S_sendUp 102 = .ok (.aload_n 2, 1) := by decide +kernel
theorem d_S_sendUp_103 : decode b_S_sendUp 103 = .ok (.getfield 218, 3) := by decide +kernel
theorem d_S_sendUp_106 : decode b_S_sendUp 106 = .ok (.if_icmp .ne 11, 3) := by decide +kernel
theorem d_S_sendUp_109 : decode b_S_sendUp 109 = .ok (.aload_n 1, 1) := by decide +kernel
theorem d_S_sendUp_110 : decode b_S_sendUp 110 = .ok (.aload_n 2, 1) := by decide +kernel
theorem d_S_sendUp_111 : decode b_S_sendUp 111 = .ok (.getfield 159, 3) := by decide +kernel
theorem d_S_sendUp_114 : decode b_S_sendUp 114 = .ok (.putfield 159, 3) := by decide +kernel
theorem d_S_sendUp_117 : decode b_S_sendUp 117 = .ok (.return_, 1) := by decide +kernel
theorem d_S_settleUp_0 : decode b_S_settleUp 0 = .ok (.aload_n 1, 1) := by decide +kernel
theorem d_S_settleUp_1 : decode b_S_settleUp 1 = .ok (.getfield 242, 3) := by decide +kernel
theorem d_S_settleUp_4 : decode b_S_settleUp 4 = .ok (.iconst 0, 1) := by decide +kernel
theorem d_S_settleUp_5 : decode b_S_settleUp 5 = .ok (.iaload, 1) := by decide +kernel
theorem d_S_settleUp_6 : decode b_S_settleUp 6 = .ok (.istore_n 3, 1) := by decide +kernel
theorem d_S_settleUp_7 : decode b_S_settleUp 7 = .ok (.aload_n 1, 1) := by decide +kernel
theorem d_S_settleUp_8 : decode b_S_settleUp 8 = .ok (.getfield 245, 3) := by decide +kernel
theorem d_S_settleUp_11 : decode b_S_settleUp 11 = .ok (.iconst 0, 1) := by decide +kernel
theorem d_S_settleUp_12 : decode b_S_settleUp 12 = .ok (.iaload, 1) := by decide +kernel
theorem d_S_settleUp_13 : decode b_S_settleUp 13 = .ok (.istore 4, 2) := by decide +kernel
theorem d_S_settleUp_15 : decode b_S_settleUp 15 = .ok (.iload 4, 2) := by decide +kernel
theorem d_S_settleUp_17 : decode b_S_settleUp 17 = .ok (.aload_n 2, 1) := by decide +kernel
theorem d_S_settleUp_18 : decode b_S_settleUp 18 = .ok (.getfield 178, 3) := by decide +kernel
theorem d_S_settleUp_21 : decode b_S_settleUp 21 = .ok (.iload_n 3, 1) := by decide +kernel
theorem d_S_settleUp_22 : decode b_S_settleUp 22 = .ok (.iaload, 1) := by decide +kernel
theorem d_S_settleUp_23 : decode b_S_settleUp 23 = .ok (.if_icmp .gt 5, 3) := by decide +kernel
theorem d_S_settleUp_26 : decode b_S_settleUp 26 = .ok (.iconst 1, 1) := by decide +kernel
theorem d_S_settleUp_27 : decode b_S_settleUp 27 = .ok (.ireturn, 1) := by decide +kernel
theorem d_S_settleUp_28 : decode b_S_settleUp 28 = .ok (.aload_n 2, 1) := by decide +kernel
theorem d_S_settleUp_29 : decode b_S_settleUp 29 = .ok (.getfield 218, 3) := by decide +kernel
theorem d_S_settleUp_32 : decode b_S_settleUp 32 = .ok (.ifCond .ne 19, 3) := by decide +kernel
theorem d_S_settleUp_35 : decode b_S_settleUp 35 = .ok (.aload_n 0, 1) := by decide +kernel
theorem d_S_settleUp_36 : decode b_S_settleUp 36 = .ok (.iload_n 3, 1) := by decide +kernel
theorem d_S_settleUp_37 : decode b_S_settleUp 37 = .ok (.iload 4, 2) := by decide +kernel
theorem d_S_settleUp_39 : decode b_S_settleUp 39 = .ok (.aload_n 1, 1) := by decide +kernel
theorem d_S_settleUp_40 : decode b_S_settleUp 40 = .ok (.getfield 248, 3) := by decide +kernel
theorem d_S_settleUp_43 : decode b_S_settleUp 43 = .ok (.iconst 0, 1) := by decide +kernel
theorem d_S_settleUp_44 : decode b_S_settleUp 44 = .ok (.iaload, 1) := by decide +kernel
theorem d_S_settleUp_45 : decode b_S_settleUp 45 = .ok (.invokevirtual 251, 3) := by decide +kernel
theorem d_S_settleUp_48 : decode b_S_settleUp 48 = .ok (.goto 24, 3) := by decide +kernel
theorem d_S_settleUp_51 : decode b_S_settleUp 51 = .ok (.aload_n 2, 1) := by decide +kernel
theorem d_S_settleUp_52 : decode b_S_settleUp 52 = .ok (.getfield 109, 3) := by decide +kernel
theorem d_S_settleUp_55 : decode b_S_settleUp 55 = .ok (.iload_n 3, 1) := by decide +kernel
theorem d_S_settleUp_56 : decode b_S_settleUp 56 = .ok (.iload 4, 2) := by decide +kernel
theorem d_S_settleUp_58 : decode b_S_settleUp 58 = .ok (.aload_n 1, 1) := by decide +kernel
theorem d_S_settleUp_59 : decode b_S_settleUp 59 = .ok (.getfield 248, 3) := by decide +kernel
theorem d_S_settleUp_62 : decode b_S_settleUp 62 = .ok (.iconst 0, 1) := by decide +kernel
theorem d_S_settleUp_63 : decode b_S_settleUp 63 = .ok (.iaload, 1) := by decide +kernel
theorem d_S_settleUp_64 : decode b_S_settleUp 64 = .ok (.invokevirtual 116, 3) := by decide +kernel
theorem d_S_settleUp_67 : decode b_S_settleUp 67 = .ok (.ifCond .ne 5, 3) := by decide +kernel
theorem d_S_settleUp_70 : decode b_S_settleUp 70 = .ok (.iconst 0, 1) := by decide +kernel
theorem d_S_settleUp_71 : decode b_S_settleUp 71 = .ok (.ireturn, 1) := by decide +kernel
theorem d_S_settleUp_72 : decode b_S_settleUp 72 = .ok (.aload_n 2, 1) := by decide +kernel
theorem d_S_settleUp_73 : decode b_S_settleUp 73 = .ok (.getfield 178, 3) := by decide +kernel
theorem d_S_settleUp_76 : decode b_S_settleUp 76 = .ok (.iload_n 3, 1) := by decide +kernel
theorem d_S_settleUp_77 : decode b_S_settleUp 77 = .ok (.iload 4, 2) := by decide +kernel
theorem d_S_settleUp_79 : decode b_S_settleUp 79 = .ok (.iastore, 1) := by decide +kernel
theorem d_S_settleUp_80 : decode b_S_settleUp 80 = .ok (.iconst 1, 1) := by decide +kernel
theorem d_S_settleUp_81 : decode b_S_settleUp 81 = .ok (.ireturn, 1) := by decide +kernel
theorem d_S_cacheSample_0 : decode b_S_cacheSample 0 = .ok (.aload_n 0, 1) := by decide +kernel
theorem d_S_cacheSample_1 : decode b_S_cacheSample 1 = .ok (.getfield 28, 3) := by decide +kernel
theorem d_S_cacheSample_4 : decode b_S_cacheSample 4 = .ok (.iload_n 1, 1) := by decide +kernel
theorem d_S_cacheSample_5 : decode b_S_cacheSample 5 = .ok (.aaload, 1) := by decide +kernel
theorem d_S_cacheSample_6 : decode b_S_cacheSample 6 = .ok (.iload_n 3, 1) := by decide +kernel
theorem d_S_cacheSample_7 : decode b_S_cacheSample 7 = .ok (.invokevirtual 254, 3) := by decide +kernel
theorem d_S_cacheSample_10 : decode b_S_cacheSample 10 = .ok (.aload_n 0, 1) := by decide +kernel
theorem d_S_cacheSample_11 : decode b_S_cacheSample 11 = .ok (.getfield 22, 3) := by decide +kernel
theorem d_S_cacheSample_14 : decode b_S_cacheSample 14 = .ok (.iconst 0, 1) := by decide +kernel
theorem d_S_cacheSample_15 : decode b_S_cacheSample 15 = .ok (.aaload, 1) := by decide +kernel
theorem d_S_cacheSample_16 : decode b_S_cacheSample 16 = .ok (.getfield 163, 3) := by decide +kernel
theorem d_S_cacheSample_19 : decode b_S_cacheSample 19 = .ok (.iload_n 1, 1) := by decide +kernel
theorem d_S_cacheSample_20 : decode b_S_cacheSample 20 = .ok (.iload_n 2, 1) := by decide +kernel
theorem d_S_cacheSample_21 : decode b_S_cacheSample 21 = .ok (.aload_n 0, 1) := by decide +kernel
theorem d_S_cacheSample_22 : decode b_S_cacheSample 22 = .ok (.getfield 28, 3) := by decide +kernel
theorem d_S_cacheSample_25 : decode b_S_cacheSample 25 = .ok (.iload_n 1, 1) := by decide +kernel
theorem d_S_cacheSample_26 : decode b_S_cacheSample 26 = .ok (.aaload, 1) := by decide +kernel
theorem d_S_cacheSample_27 : decode b_S_cacheSample 27 = .ok (.iload_n 3, 1) := by decide +kernel
theorem d_S_cacheSample_28 : decode b_S_cacheSample 28 = .ok (.invokevirtual 257, 3) := by decide +kernel
theorem d_S_cacheSample_31 : decode b_S_cacheSample 31 = .ok (.invokevirtual 116, 3) := by decide +kernel
theorem d_S_cacheSample_34 : decode b_S_cacheSample 34 = .ok (.pop, 1) := by decide +kernel
theorem d_S_cacheSample_35 : decode b_S_cacheSample 35 = .ok (.return_, 1) := by decide +kernel
theorem d_S_sendDown_0 : decode b_S_sendDown 0 = .ok (.aload_n 1, 1) := by decide +kernel
theorem d_S_sendDown_1 : decode b_S_sendDown 1 = .ok (.getfield 83, 3) := by decide +kernel
theorem d_S_sendDown_4 : decode b_S_sendDown 4 = .ok (.ifCond .eq 36, 3) := by decide +kernel
theorem d_S_sendDown_7 : decode b_S_sendDown 7 = .ok (.aload_n 1, 1) := by decide +kernel
theorem d_S_sendDown_8 : decode b_S_sendDown 8 = .ok (.getfield 163, 3) := by decide +kernel
theorem d_S_sendDown_11 : decode b_S_sendDown 11 = .ok (.getfield 162, 3) := by decide +kernel
theorem d_S_sendDown_14 : decode b_S_sendDown 14 = .ok (.ifCond .eq 26, 3) := by decide +kernel
theorem d_S_sendDown_17 : decode b_S_sendDown 17 = .ok (.aload_n 0, 1) := by decide +kernel
theorem d_S_sendDown_18 : decode b_S_sendDown 18 = .ok (.getfield 48, 3) := by decide +kernel
theorem d_S_sendDown_21 : decode b_S_sendDown 21 = .ok (.aload_n 1, 1) := by decide +kernel
theorem d_S_sendDown_22 : decode b_S_sendDown 22 = .ok (.getfield 163, 3) := by decide +kernel
theorem d_S_sendDown_25 : decode b_S_sendDown 25 = .ok (.getfield 242, 3) := by decide +kernel
theorem d_S_sendDown_28 : decode b_S_sendDown 28 = .ok (.iconst 0, 1) := by decide +kernel
theorem d_S_sendDown_29 : decode b_S_sendDown 29 = .ok (.iaload, 1) := by decide +kernel
theorem d_S_sendDown_30 : decode b_S_sendDown 30 = .ok (.aload_n 2, 1) := by decide +kernel
theorem d_S_sendDown_31 : decode b_S_sendDown 31 = .ok (.getfield 218, 3) := by decide +kernel
theorem d_S_sendDown_34 : decode b_S_sendDown 34 = .ok (.invokevirtual 260, 3) := by decide +kernel
theorem d_S_sendDown_37 : decode b_S_sendDown 37 = .ok (.ifCond .ne 4, 3) := by decide +kernel
theorem d_S_sendDown_40 : decode b_S_sendDown 40 = .ok (.return_, 1) := by decide +kernel
theorem d_S_sendDown_41 : decode b_S_sendDown 41 = .ok (.aload_n 0, 1) := by decide +kernel
theorem d_S_sendDown_42 : decode b_S_sendDown 42 = .ok (.dup, 1) := by decide +kernel
theorem d_S_sendDown_43 : decode b_S_sendDown 43 = .ok (.getfield 58, 3) := by decide +kernel
theorem d_S_sendDown_46 : decode b_S_sendDown 46 = .ok (.iconst 1, 1) := by decide +kernel
theorem d_S_sendDown_47 : decode b_S_sendDown 47 = .ok (.iadd, 1) := by decide +kernel
theorem d_S_sendDown_48 : decode b_S_sendDown 48 = .ok (.putfield 58, 3) := by decide +kernel
theorem d_S_sendDown_51 : decode b_S_sendDown 51 = .ok (.aload_n 0, 1) := by decide +kernel
theorem d_S_sendDown_52 : decode b_S_sendDown 52 = .ok (.aload_n 2, 1) := by decide +kernel
theorem d_S_sendDown_53 : decode b_S_sendDown 53 = .ok (.aload_n 1, 1) := by decide +kernel
theorem d_S_sendDown_54 : decode b_S_sendDown 54 = .ok (.aload_n 3, 1) := by decide +kernel
theorem d_S_sendDown_55 : decode b_S_sendDown 55 = .ok (.invokevirtual 225, 3) := by decide +kernel
theorem d_S_sendDown_58 : decode b_S_sendDown 58 = .ok (.istore 4, 2) := by decide +kernel
theorem d_S_sendDown_60 : decode b_S_sendDown 60 = .ok (.iload 4, 2) := by decide +kernel
theorem d_S_sendDown_62 : decode b_S_sendDown 62 = .ok (.ifCond .eq 11, 3) := by decide +kernel
theorem d_S_sendDown_65 : decode b_S_sendDown 65 = .ok (.aload_n 2, 1) := by decide +kernel
theorem d_S_sendDown_66 : decode b_S_sendDown 66 = .ok (.aload_n 1, 1) := by decide +kernel
theorem d_S_sendDown_67 : decode b_S_sendDown 67 = .ok (.getfield 159, 3) := by decide +kernel
theorem d_S_sendDown_70 : decode b_S_sendDown 70 = .ok (.putfield 159, 3) := by decide +kernel
theorem d_S_sendDown_73 : decode b_S_sendDown 73 = .ok (.iload 4, 2) := by decide +kernel
theorem d_S_sendDown_75 : decode b_S_sendDown 75 = .ok (.ifCond .eq 18, 3) := by decide +kernel
theorem d_S_sendDown_78 : decode b_S_sendDown 78 = .ok (.aload_n 1, 1) := by decide +kernel
theorem d_S_sendDown_79 : decode b_S_sendDown 79 = .ok (.getfield 163, 3) := by decide +kernel
theorem d_S_sendDown_82 : decode b_S_sendDown 82 = .ok (.aload_n 2, 1) := by decide +kernel
theorem d_S_sendDown_83 : decode b_S_sendDown 83 = .ok (.invokestatic 264, 3) := by decide +kernel
theorem d_S_sendDown_86 : decode b_S_sendDown 86 = .ok (.ifCond .eq 7, 3) := by decide +kernel
theorem d_S_sendDown_89 : decode b_S_sendDown 89 = .ok (.iconst 1, 1) := by decide +kernel
theorem d_S_sendDown_90 : decode b_S_sendDown 90 = .ok (.goto 4, 3) := by decide +kernel
theorem d_S_sendDown_93 : decode b_S_sendDown 93 = .ok (.iconst 0, 1) := by decide +kernel
theorem d_S_sendDown_94 : decode b_S_sendDown 94 = .ok (.istore 5, 2) := by decide +kernel
theorem d_S_sendDown_96 : decode b_S_sendDown 96 = .ok (.iload 5, 2) := by decide +kernel
theorem d_S_sendDown_98 : decode b_S_sendDown 98 = .ok (.ifCond .eq 29, 3) := by decide +kernel
theorem d_S_sendDown_101 : decode b_S_sendDown 101 = .ok (.aload_n 3, 1) := by decide +kernel
theorem d_S_sendDown_102 : decode b_S_sendDown 102 = .ok (.aload_n 0, 1) := by decide +kernel
theorem d_S_sendDown_103 : decode b_S_sendDown 103 = .ok (.getfield 55, 3) := by decide +kernel
theorem d_S_sendDown_106 : decode b_S_sendDown 106 = .ok (.invokevirtual 233, 3) := by decide +kernel
theorem d_S_sendDown_109 : decode b_S_sendDown 109 = .ok (.ifCond .eq 18, 3) := by decide +kernel
theorem d_S_sendDown_112 : decode b_S_sendDown 112 = .ok (.aload_n 1, 1) := by decide +kernel
theorem d_S_sendDown_113 : decode b_S_sendDown 113 = .ok (.getfield 163, 3) := by decide +kernel
theorem d_S_sendDown_116 : decode b_S_sendDown 116 = .ok (.invokevirtual 239, 3) := by decide +kernel
theorem d_S_sendDown_119 : decode b_S_sendDown 119 = .ok (.aload_n 1, 1) := by decide +kernel
theorem d_S_sendDown_120 : decode b_S_sendDown 120 = .ok (.iconst 0, 1) := by decide +kernel
theorem d_S_sendDown_121 : decode b_S_sendDown 121 = .ok (.putfield 169, 3) := by decide +kernel
theorem d_S_sendDown_124 : decode b_S_sendDown 124 = .ok (.goto 7, 3) := by decide +kernel
theorem d_S_sendDown_127 : decode b_S_sendDown 127 = .ok (.aload_n 1, 1) := by decide +kernel
theorem d_S_sendDown_128 : decode b_S_sendDown 128 = .ok (.invokevirtual 267, 3) := by decide +kernel
theorem d_S_sendDown_131 : decode b_S_sendDown 131 = .ok (.return_, 1) := by decide +kernel
theorem d_S_settleDown_0 : decode b_S_settleDown 0 = .ok (.aload_n 0, 1) := by decide +kernel
theorem d_S_settleDown_1 : decode b_S_settleDown 1 = .ok (.getfield 242, 3) := by decide +kernel
theorem d_S_settleDown_4 : decode b_S_settleDown 4 = .ok (.iconst 0, 1) := by decide +kernel
theorem d_S_settleDown_5 : decode b_S_settleDown 5 = .ok (.iaload, 1) := by decide +kernel
theorem d_S_settleDown_6 : decode b_S_settleDown 6 = .ok (.istore_n 2, 1) := by decide +kernel
theorem d_S_settleDown_7 : decode b_S_settleDown 7 = .ok (.aload_n 0, 1) := by decide +kernel
theorem d_S_settleDown_8 : decode b_S_settleDown 8 = .ok (.getfield 245, 3) := by decide +kernel
theorem d_S_settleDown_11 : decode b_S_settleDown 11 = .ok (.iconst 0, 1) := by decide +kernel
theorem d_S_settleDown_12 : decode b_S_settleDown 12 = .ok (.iaload, 1) := by decide +kernel
theorem d_S_settleDown_13 : decode b_S_settleDown 13 = .ok (.istore_n 3, 1) := by decide +kernel
theorem d_S_settleDown_14 : decode b_S_settleDown 14 = .ok (.iload_n 3, 1) := by decide +kernel
theorem d_S_settleDown_15 : decode b_S_settleDown 15 = .ok (.aload_n 1, 1) := by decide +kernel
theorem d_S_settleDown_16 : decode b_S_settleDown 16 = .ok (.getfield 270, 3) := by decide +kernel
theorem d_S_settleDown_19 : decode b_S_settleDown 19 = .ok (.iload_n 2, 1) := by decide +kernel
theorem d_S_settleDown_20 : decode b_S_settleDown 20 = .ok (.iaload, 1) := by decide +kernel
theorem d_S_settleDown_21 : decode b_S_settleDown 21 = .ok (.if_icmp .gt 5, 3) := by decide +kernel
theorem d_S_settleDown_24 : decode b_S_settleDown 24 = .ok (.iconst 1, 1) := by decide +kernel
theorem d_S_settleDown_25 : decode b_S_settleDown 25 = .ok (.ireturn, 1) := by decide +kernel
theorem d_S_settleDown_26 : decode b_S_settleDown 26 = .ok (.aload_n 1, 1) := by decide +kernel
theorem d_S_settleDown_27 : decode b_S_settleDown 27 = .ok (.getfield 218, 3) := by decide +kernel
theorem d_S_settleDown_30 : decode b_S_settleDown 30 = .ok (.iload_n 2, 1) := by decide +kernel
theorem d_S_settleDown_31 : decode b_S_settleDown 31 = .ok (.if_icmp .ne 16, 3) := by decide +kernel
theorem d_S_settleDown_34 : decode b_S_settleDown 34 = .ok (.aload_n 1, 1) := by decide +kernel
theorem d_S_settleDown_35 : decode b_S_settleDown 35 = .ok (.aload_n 0, 1) := by decide +kernel
theorem d_S_settleDown_36 : decode b_S_settleDown 36 = .ok (.getfield 248, 3) := by decide +kernel
theorem d_S_settleDown_39 : decode b_S_settleDown 39 = .ok (.iconst 0, 1) := by decide +kernel
theorem d_S_settleDown_40 : decode b_S_settleDown 40 = .ok (.iaload, 1) := by decide +kernel
theorem d_S_settleDown_41 : decode b_S_settleDown 41 = .ok (.putfield 181, 3) := by decide +kernel
theorem d_S_settleDown_44 : decode b_S_settleDown 44 = .ok (.goto 23, 3) := by decide +kernel
theorem d_S_settleDown_47 : decode b_S_settleDown 47 = .ok (.aload_n 1, 1) := by decide +kernel
theorem d_S_settleDown_48 : decode b_S_settleDown 48 = .ok (.getfield 163, 3) := by decide +kernel
theorem d_S_settleDown_51 : decode b_S_settleDown 51 = .ok (.iload_n 2, 1) := by decide +kernel
theorem d_S_settleDown_52 : decode b_S_settleDown 52 = .ok (.iload_n 3, 1) := by decide +kernel
theorem d_S_settleDown_53 : decode b_S_settleDown 53 = .ok (.aload_n 0, 1) := by decide +kernel
theorem d_S_settleDown_54 : decode b_S_settleDown 54 = .ok (.getfield 248, 3) := by decide +kernel
theorem d_S_settleDown_57 : decode b_S_settleDown 57 = .ok (.iconst 0, 1) := by decide +kernel
theorem d_S_settleDown_58 : decode b_S_settleDown 58 = .ok (.iaload, 1) := by decide +kernel
theorem d_S_settleDown_59 : decode b_S_settleDown 59 = .ok (.invokevirtual 116, 3) := by decide +kernel
theorem d_S_settleDown_62 : decode b_S_settleDown 62 = .ok (.ifCond .ne 5, 3) := by decide +kernel
theorem d_S_settleDown_65 : decode b_S_settleDown 65 = .ok (.iconst 0, 1) := by decide +kernel
theorem d_S_settleDown_66 : decode b_S_settleDown 66 = .ok (.ireturn, 1) := by decide +kernel
theorem d_S_settleDown_67 : decode b_S_settleDown 67 = .ok (.aload_n 1, 1) := by decide +kernel
theorem d_S_settleDown_68 : decode b_S_settleDown 68 = .ok (.getfield 270, 3) := by decide +kernel
theorem d_S_settleDown_71 : decode b_S_settleDown 71 = .ok (.iload_n 2, 1) := by decide +kernel
theorem d_S_settleDown_72 : decode b_S_settleDown 72 = .ok (.iload_n 3, 1) := by decide +kernel
theorem d_S_settleDown_73 : decode b_S_settleDown 73 = .ok (.iastore, 1) := by decide +kernel
theorem d_S_settleDown_74 : decode b_S_settleDown 74 = .ok (.iconst 1, 1) := by decide +kernel
theorem d_S_settleDown_75 : decode b_S_settleDown 75 = .ok (.ireturn, 1) := by decide +kernel
theorem d_M_init_0 : decode b_M_init 0 = .ok (.aload_n 0, 1) := by decide +kernel
theorem d_M_init_1 : decode b_M_init 1 = .ok (.invokespecial 1, 3) := by decide +kernel
theorem d_M_init_4 : decode b_M_init 4 = .ok (.aload_n 0, 1) := by decide +kernel
theorem d_M_init_5 : decode b_M_init 5 = .ok (.bipush 36, 2) := by decide +kernel
theorem d_M_init_7 : decode b_M_init 7 = .ok (.newarray .boolean, 2) := by decide +kernel
theorem d_M_init_9 : decode b_M_init 9 = .ok (.putfield 7, 3) := by decide +kernel
theorem d_M_init_12 : decode b_M_init 12 = .ok (.aload_n 0, 1) := by decide +kernel
theorem d_M_init_13 : decode b_M_init 13 = .ok (.bipush 6, 2) := by decide +kernel
theorem d_M_init_15 : decode b_M_init 15 = .ok (.newarray .boolean, 2) := by decide +kernel
theorem d_M_init_17 : decode b_M_init 17 = .ok (.putfield 13, 3) := by decide +kernel
theorem d_M_init_20 : decode b_M_init 20 = .ok (.aload_n 0, 1) := by decide +kernel
theorem d_M_init_21 : decode b_M_init 21 = .ok (.bipush 6, 2) := by decide +kernel
theorem d_M_init_23 : decode b_M_init 23 = .ok (.newarray .boolean, 2) := by decide +kernel
theorem d_M_init_25 : decode b_M_init 25 = .ok (.putfield 16, 3) := by decide +kernel
theorem d_M_init_28 : decode b_M_init 28 = .ok (.aload_n 0, 1) := by decide +kernel
theorem d_M_init_29 : decode b_M_init 29 = .ok (.bipush 6, 2) := by decide +kernel
theorem d_M_init_31 : decode b_M_init 31 = .ok (.newarray .int, 2) := by decide +kernel
theorem d_M_init_33 : decode b_M_init 33 = .ok (.putfield 19, 3) := by decide +kernel
theorem d_M_init_36 : decode b_M_init 36 = .ok (.aload_n 0, 1) := by decide +kernel
theorem d_M_init_37 : decode b_M_init 37 = .ok (.bipush 6, 2) := by decide +kernel
theorem d_M_init_39 : decode b_M_init 39 = .ok (.newarray .int, 2) := by decide +kernel
theorem d_M_init_41 : decode b_M_init 41 = .ok (.putfield 23, 3) := by decide +kernel
theorem d_M_init_44 : decode b_M_init 44 = .ok (.aload_n 0, 1) := by decide +kernel
theorem d_M_init_45 : decode b_M_init 45 = .ok (.iconst 4, 1) := by decide +kernel
theorem d_M_init_46 : decode b_M_init 46 = .ok (.newarray .long, 2) := by decide +kernel
theorem d_M_init_48 : decode b_M_init 48 = .ok (.putfield 26, 3) := by decide +kernel
theorem d_M_init_51 : decode b_M_init 51 = .ok (.aload_n 0, 1) := by decide +kernel
theorem d_M_init_52 : decode b_M_init 52 = .ok (.iconst 4, 1) := by decide +kernel
theorem d_M_init_53 : decode b_M_init 53 = .ok (.newarray .long, 2) := by decide +kernel
theorem d_M_init_55 : decode b_M_init 55 = .ok (.putfield 30, 3) := by decide +kernel
theorem d_M_init_58 : decode b_M_init 58 = .ok (.aload_n 0, 1) := by decide +kernel
theorem d_M_init_59 : decode b_M_init 59 = .ok (.bipush 6, 2) := by decide +kernel
theorem d_M_init_61 : decode b_M_init 61 = .ok (.newarray .int, 2) := by decide +kernel
theorem d_M_init_63 : decode b_M_init 63 = .ok (.putfield 33, 3) := by decide +kernel
theorem d_M_init_66 : decode b_M_init 66 = .ok (.aload_n 0, 1) := by decide +kernel
theorem d_M_init_67 : decode b_M_init 67 = .ok (.bipush 12, 2) := by decide +kernel
theorem d_M_init_69 : decode b_M_init 69 = .ok (.newarray .int, 2) := by decide +kernel
theorem d_M_init_71 : decode b_M_init 71 = .ok (.putfield 36, 3) := by decide +kernel
theorem d_M_init_74 : decode b_M_init 74 = .ok (.aload_n 0, 1) := by decide +kernel
theorem d_M_init_75 : decode b_M_init 75 = .ok (.bipush 96, 2) := by decide +kernel
theorem d_M_init_77 : decode b_M_init 77 = .ok (.newarray .int, 2) := by decide +kernel
theorem d_M_init_79 : decode b_M_init 79 = .ok (.putfield 39, 3) := by decide +kernel
theorem d_M_init_82 : decode b_M_init 82 = .ok (.aload_n 0, 1) := by decide +kernel
theorem d_M_init_83 : decode b_M_init 83 = .ok (.bipush 6, 2) := by decide +kernel
theorem d_M_init_85 : decode b_M_init 85 = .ok (.newarray .int, 2) := by decide +kernel
theorem d_M_init_87 : decode b_M_init 87 = .ok (.putfield 42, 3) := by decide +kernel
theorem d_M_init_90 : decode b_M_init 90 = .ok (.aload_n 0, 1) := by decide +kernel
theorem d_M_init_91 : decode b_M_init 91 = .ok (.bipush 12, 2) := by decide +kernel
theorem d_M_init_93 : decode b_M_init 93 = .ok (.newarray .int, 2) := by decide +kernel
theorem d_M_init_95 : decode b_M_init 95 = .ok (.putfield 45, 3) := by decide +kernel
theorem d_M_init_98 : decode b_M_init 98 = .ok (.aload_n 0, 1) := by decide +kernel
theorem d_M_init_99 : decode b_M_init 99 = .ok (.bipush 96, 2) := by decide +kernel
theorem d_M_init_101 : decode b_M_init 101 = .ok (.newarray .int, 2) := by decide +kernel
theorem d_M_init_103 : decode b_M_init 103 = .ok (.putfield 48, 3) := by decide +kernel
theorem d_M_init_106 : decode b_M_init 106 = .ok (.aload_n 0, 1) := by decide +kernel
theorem d_M_init_107 : decode b_M_init 107 = .ok (.bipush 12, 2) := by decide +kernel
theorem d_M_init_109 : decode b_M_init 109 = .ok (.newarray .int, 2) := by decide +kernel
theorem d_M_init_111 : decode b_M_init 111 = .ok (.putfield 51, 3) := by decide +kernel
theorem d_M_init_114 : decode b_M_init 114 = .ok (.aload_n 0, 1) := by decide +kernel
theorem d_M_init_115 : decode b_M_init 115 = .ok (.bipush 48, 2) := by decide +kernel
theorem d_M_init_117 : decode b_M_init 117 = .ok (.newarray .int, 2) := by decide +kernel
theorem d_M_init_119 : decode b_M_init 119 = .ok (.putfield 54, 3) := by decide +kernel
theorem d_M_init_122 : decode b_M_init 122 = .ok (.aload_n 0, 1) := by decide +kernel
theorem d_M_init_123 : decode b_M_init 123 = .ok (.bipush 48, 2) := by decide +kernel
theorem d_M_init_125 : decode b_M_init 125 = .ok (.newarray .int, 2) := by decide +kernel
theorem d_M_init_127 : decode b_M_init 127 = .ok (.putfield 57, 3) := by decide +kernel
theorem d_M_init_130 : decode b_M_init 130 = .ok (.aload_n 0, 1) := by decide +kernel
theorem d_M_init_131 : decode b_M_init 131 = .ok (.bipush 48, 2) := by decide +kernel
theorem d_M_init_133 : decode b_M_init 133 = .ok (.newarray .int, 2) := by decide +kernel
theorem d_M_init_135 : decode b_M_init 135 = .ok (.putfield 60, 3) := by decide +kernel
theorem d_M_init_138 : decode b_M_init 138 = .ok (.aload_n 0, 1) := by decide +kernel
theorem d_M_init_139 : decode b_M_init 139 = .ok (.bipush 6, 2) := by decide +kernel
theorem d_M_init_141 : decode b_M_init 141 = .ok (.newarray .int, 2) := by decide +kernel
theorem d_M_init_143 : decode b_M_init 143 = .ok (.putfield 63, 3) := by decide +kernel
theorem d_M_init_146 : decode b_M_init 146 = .ok (.aload_n 0, 1) := by decide +kernel
theorem d_M_init_147 : decode b_M_init 147 = .ok (.bipush 6, 2) := by decide +kernel
theorem d_M_init_149 : decode b_M_init 149 = .ok (.newarray .int, 2) := by decide +kernel
theorem d_M_init_151 : decode b_M_init 151 = .ok (.putfield 66, 3) := by decide +kernel
theorem d_M_init_154 : decode b_M_init 154 = .ok (.aload_n 0, 1) := by decide +kernel
theorem d_M_init_155 : decode b_M_init 155 = .ok (.bipush 72, 2) := by decide +kernel
theorem d_M_init_157 : decode b_M_init 157 = .ok (.newarray .int, 2) := by decide +kernel
theorem d_M_init_159 : decode b_M_init 159 = .ok (.putfield 69, 3) := by decide +kernel
theorem d_M_init_162 : decode b_M_init 162 = .ok (.aload_n 0, 1) := by decide +kernel
theorem d_M_init_163 : decode b_M_init 163 = .ok (.bipush 6, 2) := by decide +kernel
theorem d_M_init_165 : decode b_M_init 165 = .ok (.newarray .int, 2) := by decide +kernel
theorem d_M_init_167 : decode b_M_init 167 = .ok (.putfield 72, 3) := by decide +kernel
theorem d_M_init_170 : decode b_M_init 170 = .ok (.aload_n 0, 1) := by decide +kernel
theorem d_M_init_171 : decode b_M_init 171 = .ok (.bipush 18, 2) := by decide +kernel
theorem d_M_init_173 : decode b_M_init 173 = .ok (.newarray .int, 2) := by decide +kernel
theorem d_M_init_175 : decode b_M_init 175 = .ok (.putfield 75, 3) := by decide +kernel
theorem d_M_init_178 : decode b_M_init 178 = .ok (.aload_n 0, 1) := by decide +kernel
theorem d_M_init_179 : decode b_M_init 179 = .ok (.bipush 6, 2) := by decide +kernel
theorem d_M_init_181 : decode b_M_init 181 = .ok (.newarray .int, 2) := by decide +kernel
theorem d_M_init_183 : decode b_M_init 183 = .ok (.putfield 78, 3) := by decide +kernel
theorem d_M_init_186 : decode b_M_init 186 = .ok (.aload_n 0, 1) := by decide +kernel
theorem d_M_init_187 : decode b_M_init 187 = .ok (.bipush 6, 2) := by decide +kernel
theorem d_M_init_189 : decode b_M_init 189 = .ok (.newarray .int, 2) := by decide +kernel
theorem d_M_init_191 : decode b_M_init 191 = .ok (.putfield 81, 3) := by decide +kernel
theorem d_M_init_194 : decode b_M_init 194 = .ok (.aload_n 0, 1) := by decide +kernel
theorem d_M_init_195 : decode b_M_init 195 = .ok (.bipush 6, 2) := by decide +kernel
theorem d_M_init_197 : decode b_M_init 197 = .ok (.newarray .int, 2) := by decide +kernel
theorem d_M_init_199 : decode b_M_init 199 = .ok (.putfield 84, 3) := by decide +kernel
theorem d_M_init_202 : decode b_M_init 202 = .ok (.aload_n 0, 1) := by decide +kernel
theorem d_M_init_203 : decode b_M_init 203 = .ok (.bipush 6, 2) := by decide +kernel
theorem d_M_init_205 : decode b_M_init 205 = .ok (.newarray .int, 2) := by decide +kernel
theorem d_M_init_207 : decode b_M_init 207 = .ok (.putfield 87, 3) := by decide +kernel
theorem d_M_init_210 : decode b_M_init 210 = .ok (.aload_n 0, 1) := by decide +kernel
theorem d_M_init_211 : decode b_M_init 211 = .ok (.bipush 6, 2) := by decide +kernel
theorem d_M_init_213 : decode b_M_init 213 = .ok (.newarray .int, 2) := by decide +kernel
theorem d_M_init_215 : decode b_M_init 215 = .ok (.putfield 90, 3) := by decide +kernel
theorem d_M_init_218 : decode b_M_init 218 = .ok (.aload_n 0, 1) := by decide +kernel
theorem d_M_init_219 : decode b_M_init 219 = .ok (.bipush 6, 2) := by decide +kernel
theorem d_M_init_221 : decode b_M_init 221 = .ok (.newarray .int, 2) := by decide +kernel
theorem d_M_init_223 : decode b_M_init 223 = .ok (.putfield 93, 3) := by decide +kernel
theorem d_M_init_226 : decode b_M_init 226 = .ok (.aload_n 0, 1) := by decide +kernel
theorem d_M_init_227 : decode b_M_init 227 = .ok (.iload_n 1, 1) := by decide +kernel
theorem d_M_init_228 : decode b_M_init 228 = .ok (.iconst 2, 1) := by decide +kernel
theorem d_M_init_229 : decode b_M_init 229 = .ok (.if_icmp .ge 7, 3) := by decide +kernel
theorem d_M_init_232 : decode b_M_init 232 = .ok (.iconst 2, 1) := by decide +kernel
theorem d_M_init_233 : decode b_M_init 233 = .ok (.goto 15, 3) := by decide +kernel
theorem d_M_init_236 : decode b_M_init 236 = .ok (.iload_n 1, 1) := by decide +kernel
theorem d_M_init_237 : decode b_M_init 237 = .ok (.bipush 6, 2) := by decide +kernel
theorem d_M_init_239 : decode b_M_init 239 = .ok (.if_icmp .le 8, 3) := by decide +kernel
theorem d_M_init_242 : decode b_M_init 242 = .ok (.bipush 6, 2) := by decide +kernel
theorem d_M_init_244 : decode b_M_init 244 = .ok (.goto 4, 3) := by decide +kernel
theorem d_M_init_247 : decode b_M_init 247 = .ok (.iload_n 1, 1) := by decide +kernel
theorem d_M_init_248 : decode b_M_init 248 = .ok (.putfield 96, 3) := by decide +kernel
theorem d_M_init_251 : decode b_M_init 251 = .ok (.aload_n 0, 1) := by decide +kernel
theorem d_M_init_252 : decode b_M_init 252 = .ok (.iload_n 2, 1) := by decide +kernel
theorem d_M_init_253 : decode b_M_init 253 = .ok (.bipush 8, 2) := by decide +kernel
theorem d_M_init_255 : decode b_M_init 255 = .ok (.if_icmp .ge 8, 3) := by decide +kernel
theorem d_M_init_258 : decode b_M_init 258 = .ok (.bipush 8, 2) := by decide +kernel
theorem d_M_init_260 : decode b_M_init 260 = .ok (.goto 15, 3) := by decide +kernel
theorem d_M_init_263 : decode b_M_init 263 = .ok (.iload_n 2, 1) := by decide +kernel
theorem d_M_init_264 : decode b_M_init 264 = .ok (.bipush 24, 2) := by decide +kernel
theorem d_M_init_266 : decode b_M_init 266 = .ok (.if_icmp .le 8, 3) := by decide +kernel
theorem d_M_init_269 : decode b_M_init 269 = .ok (.bipush 24, 2) := by decide +kernel
theorem d_M_init_271 : decode b_M_init 271 = .ok (.goto 4, 3) := by decide +kernel
theorem d_M_init_274 : decode b_M_init 274 = .ok (.iload_n 2, 1) := by decide +kernel
theorem d_M_init_275 : decode b_M_init 275 = .ok (.putfield 100, 3) := by decide +kernel
theorem d_M_init_278 : decode b_M_init 278 = .ok (.aload_n 0, 1) := by decide +kernel
theorem d_M_init_279 : decode b_M_init 279 = .ok (.iload_n 3, 1) := by decide +kernel
theorem d_M_init_280 : decode b_M_init 280 = .ok (.iconst 1, 1) := by decide +kernel
theorem d_M_init_281 : decode b_M_init 281 = .ok (.if_icmp .ge 7, 3) := by decide +kernel
theorem d_M_init_284 : decode b_M_init 284 = .ok (.iconst 1, 1) := by decide +kernel
theorem d_M_init_285 : decode b_M_init 285 = .ok (.goto 13, 3) := by decide +kernel
theorem d_M_init_288 : decode b_M_init 288 = .ok (.iload_n 3, 1) := by decide +kernel
theorem d_M_init_289 : decode b_M_init 289 = .ok (.iconst 4, 1) := by decide +kernel
theorem d_M_init_290 : decode b_M_init 290 = .ok (.if_icmp .le 7, 3) := by decide +kernel
theorem d_M_init_293 : decode b_M_init 293 = .ok (.iconst 4, 1) := by decide +kernel
theorem d_M_init_294 : decode b_M_init 294 = .ok (.goto 4, 3) := by decide +kernel
theorem d_M_init_297 : decode b_M_init 297 = .ok (.iload_n 3, 1) := by decide +kernel
theorem d_M_init_298 : decode b_M_init 298 = .ok (.putfield 103, 3) := by decide +kernel
theorem d_M_init_301 : decode b_M_init 301 = .ok (.aload_n 0, 1) := by decide +kernel
theorem d_M_init_302 : decode b_M_init 302 = .ok (.getfield 13, 3) := by decide +kernel
theorem d_M_init_305 : decode b_M_init 305 = .ok (.iconst 0, 1) := by decide +kernel
theorem d_M_init_306 : decode b_M_init 306 = .ok (.iconst 1, 1) := by decide +kernel
theorem d_M_init_307 : decode b_M_init 307 = .ok (.bastore, 1) := by decide +kernel
theorem d_M_init_308 : decode b_M_init 308 = .ok (.aload_n 0, 1) := by decide +kernel
theorem d_M_init_309 : decode b_M_init 309 = .ok (.getfield 16, 3) := by decide +kernel
theorem d_M_init_312 : decode b_M_init 312 = .ok (.iconst 0, 1) := by decide +kernel
theorem d_M_init_313 : decode b_M_init 313 = .ok (.iconst 1, 1) := by decide +kernel
theorem d_M_init_314 : decode b_M_init 314 = .ok (.bastore, 1) := by decide +kernel
theorem d_M_init_315 : decode b_M_init 315 = .ok (.iconst 0, 1) := by decide +kernel
theorem d_M_init_316 : decode b_M_init 316 = .ok (.istore 4, 2) := by decide +kernel
theorem d_M_init_318 : decode b_M_init 318 = .ok (.iload 4, 2) := by decide +kernel
theorem d_M_init_320 : decode b_M_init 320 = .ok (.iconst 4, 1) := by decide +kernel
