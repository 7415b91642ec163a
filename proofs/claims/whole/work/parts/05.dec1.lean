theorem d_M_init_321 : decode b_M_init 321 = .ok (.if_icmp .ge 29, 3) := by decide +kernel
theorem d_M_init_324 : decode b_M_init 324 = .ok (.aload_n 0, 1) := by decide +kernel
theorem d_M_init_325 : decode b_M_init 325 = .ok (.getfield 26, 3) := by decide +kernel
theorem d_M_init_328 : decode b_M_init 328 = .ok (.iload 4, 2) := by decide +kernel
theorem d_M_init_330 : decode b_M_init 330 = .ok (.ldc2_w 106, 3) := by decide +kernel
theorem d_M_init_333 : decode b_M_init 333 = .ok (.lastore, 1) := by decide +kernel
theorem d_M_init_334 : decode b_M_init 334 = .ok (.aload_n 0, 1) := by decide +kernel
theorem d_M_init_335 : decode b_M_init 335 = .ok (.getfield 30, 3) := by decide +kernel
theorem d_M_init_338 : decode b_M_init 338 = .ok (.iload 4, 2) := by decide +kernel
theorem d_M_init_340 : decode b_M_init 340 = .ok (.ldc2_w 106, 3) := by decide +kernel
theorem d_M_init_343 : decode b_M_init 343 = .ok (.lastore, 1) := by decide +kernel
theorem d_M_init_344 : decode b_M_init 344 = .ok (.iinc 4 1, 3) := by decide +kernel
theorem d_M_init_347 : decode b_M_init 347 = .ok (.goto (-29), 3) := by decide +kernel
theorem d_M_init_350 : decode b_M_init 350 = .ok (.return_, 1) := by decide +kernel
theorem d_M_noNode_0 : decode b_M_noNode 0 = .ok (.iload_n 1, 1) := by decide +kernel
theorem d_M_noNode_1 : decode b_M_noNode 1 = .ok (.ifCond .lt 11, 3) := by decide +kernel
theorem d_M_noNode_4 : decode b_M_noNode 4 = .ok (.iload_n 1, 1) := by decide +kernel
theorem d_M_noNode_5 : decode b_M_noNode 5 = .ok (.aload_n 0, 1) := by decide +kernel
theorem d_M_noNode_6 : decode b_M_noNode 6 = .ok (.getfield 96, 3) := by decide +kernel
theorem d_M_noNode_9 : decode b_M_noNode 9 = .ok (.if_icmp .lt 7, 3) := by decide +kernel
theorem d_M_noNode_12 : decode b_M_noNode 12 = .ok (.iconst 1, 1) := by decide +kernel
theorem d_M_noNode_13 : decode b_M_noNode 13 = .ok (.goto 4, 3) := by decide +kernel
theorem d_M_noNode_16 : decode b_M_noNode 16 = .ok (.iconst 0, 1) := by decide +kernel
theorem d_M_noNode_17 : decode b_M_noNode 17 = .ok (.ireturn, 1) := by decide +kernel
theorem d_M_pair_0 : decode b_M_pair 0 = .ok (.aload_n 0, 1) := by decide +kernel
theorem d_M_pair_1 : decode b_M_pair 1 = .ok (.iload_n 1, 1) := by decide +kernel
theorem d_M_pair_2 : decode b_M_pair 2 = .ok (.invokevirtual 108, 3) := by decide +kernel
theorem d_M_pair_5 : decode b_M_pair 5 = .ok (.ifCond .ne 31, 3) := by decide +kernel
theorem d_M_pair_8 : decode b_M_pair 8 = .ok (.aload_n 0, 1) := by decide +kernel
theorem d_M_pair_9 : decode b_M_pair 9 = .ok (.iload_n 2, 1) := by decide +kernel
theorem d_M_pair_10 : decode b_M_pair 10 = .ok (.invokevirtual 108, 3) := by decide +kernel
theorem d_M_pair_13 : decode b_M_pair 13 = .ok (.ifCond .ne 23, 3) := by decide +kernel
theorem d_M_pair_16 : decode b_M_pair 16 = .ok (.iload_n 1, 1) := by decide +kernel
theorem d_M_pair_17 : decode b_M_pair 17 = .ok (.iload_n 2, 1) := by decide +kernel
theorem d_M_pair_18 : decode b_M_pair 18 = .ok (.if_icmp .eq 18, 3) := by decide +kernel
theorem d_M_pair_21 : decode b_M_pair 21 = .ok (.aload_n 0, 1) := by decide +kernel
theorem d_M_pair_22 : decode b_M_pair 22 = .ok (.getfield 7, 3) := by decide +kernel
theorem d_M_pair_25 : decode b_M_pair 25 = .ok (.bipush 6, 2) := by decide +kernel
theorem d_M_pair_27 : decode b_M_pair 27 = .ok (.iload_n 1, 1) := by decide +kernel
theorem d_M_pair_28 : decode b_M_pair 28 = .ok (.imul, 1) := by decide +kernel
theorem d_M_pair_29 : decode b_M_pair 29 = .ok (.iload_n 2, 1) := by decide +kernel
theorem d_M_pair_30 : decode b_M_pair 30 = .ok (.iadd, 1) := by decide +kernel
theorem d_M_pair_31 : decode b_M_pair 31 = .ok (.baload, 1) := by decide +kernel
theorem d_M_pair_32 : decode b_M_pair 32 = .ok (.iload_n 3, 1) := by decide +kernel
theorem d_M_pair_33 : decode b_M_pair 33 = .ok (.if_icmp .ne 5, 3) := by decide +kernel
theorem d_M_pair_36 : decode b_M_pair 36 = .ok (.iconst 0, 1) := by decide +kernel
theorem d_M_pair_37 : decode b_M_pair 37 = .ok (.ireturn, 1) := by decide +kernel
theorem d_M_pair_38 : decode b_M_pair 38 = .ok (.aload_n 0, 1) := by decide +kernel
theorem d_M_pair_39 : decode b_M_pair 39 = .ok (.getfield 7, 3) := by decide +kernel
theorem d_M_pair_42 : decode b_M_pair 42 = .ok (.bipush 6, 2) := by decide +kernel
theorem d_M_pair_44 : decode b_M_pair 44 = .ok (.iload_n 1, 1) := by decide +kernel
theorem d_M_pair_45 : decode b_M_pair 45 = .ok (.imul, 1) := by decide +kernel
theorem d_M_pair_46 : decode b_M_pair 46 = .ok (.iload_n 2, 1) := by decide +kernel
theorem d_M_pair_47 : decode b_M_pair 47 = .ok (.iadd, 1) := by decide +kernel
theorem d_M_pair_48 : decode b_M_pair 48 = .ok (.iload_n 3, 1) := by decide +kernel
theorem d_M_pair_49 : decode b_M_pair 49 = .ok (.bastore, 1) := by decide +kernel
theorem d_M_pair_50 : decode b_M_pair 50 = .ok (.aload_n 0, 1) := by decide +kernel
theorem d_M_pair_51 : decode b_M_pair 51 = .ok (.getfield 7, 3) := by decide +kernel
theorem d_M_pair_54 : decode b_M_pair 54 = .ok (.bipush 6, 2) := by decide +kernel
theorem d_M_pair_56 : decode b_M_pair 56 = .ok (.iload_n 2, 1) := by decide +kernel
theorem d_M_pair_57 : decode b_M_pair 57 = .ok (.imul, 1) := by decide +kernel
theorem d_M_pair_58 : decode b_M_pair 58 = .ok (.iload_n 1, 1) := by decide +kernel
theorem d_M_pair_59 : decode b_M_pair 59 = .ok (.iadd, 1) := by decide +kernel
theorem d_M_pair_60 : decode b_M_pair 60 = .ok (.iload_n 3, 1) := by decide +kernel
theorem d_M_pair_61 : decode b_M_pair 61 = .ok (.bastore, 1) := by decide +kernel
theorem d_M_pair_62 : decode b_M_pair 62 = .ok (.iconst 1, 1) := by decide +kernel
theorem d_M_pair_63 : decode b_M_pair 63 = .ok (.ireturn, 1) := by decide +kernel
theorem d_M_ranks_0 : decode b_M_ranks 0 = .ok (.iconst 0, 1) := by decide +kernel
theorem d_M_ranks_1 : decode b_M_ranks 1 = .ok (.istore_n 1, 1) := by decide +kernel
theorem d_M_ranks_2 : decode b_M_ranks 2 = .ok (.iload_n 1, 1) := by decide +kernel
theorem d_M_ranks_3 : decode b_M_ranks 3 = .ok (.bipush 6, 2) := by decide +kernel
theorem d_M_ranks_5 : decode b_M_ranks 5 = .ok (.if_icmp .ge 25, 3) := by decide +kernel
theorem d_M_ranks_8 : decode b_M_ranks 8 = .ok (.aload_n 0, 1) := by decide +kernel
theorem d_M_ranks_9 : decode b_M_ranks 9 = .ok (.getfield 42, 3) := by decide +kernel
theorem d_M_ranks_12 : decode b_M_ranks 12 = .ok (.iload_n 1, 1) := by decide +kernel
theorem d_M_ranks_13 : decode b_M_ranks 13 = .ok (.iload_n 1, 1) := by decide +kernel
theorem d_M_ranks_14 : decode b_M_ranks 14 = .ok (.ifCond .ne 7, 3) := by decide +kernel
theorem d_M_ranks_17 : decode b_M_ranks 17 = .ok (.iconst 0, 1) := by decide +kernel
theorem d_M_ranks_18 : decode b_M_ranks 18 = .ok (.goto 5, 3) := by decide +kernel
theorem d_M_ranks_21 : decode b_M_ranks 21 = .ok (.bipush 99, 2) := by decide +kernel
theorem d_M_ranks_23 : decode b_M_ranks 23 = .ok (.iastore, 1) := by decide +kernel
theorem d_M_ranks_24 : decode b_M_ranks 24 = .ok (.iinc 1 1, 3) := by decide +kernel
theorem d_M_ranks_27 : decode b_M_ranks 27 = .ok (.goto (-25), 3) := by decide +kernel
theorem d_M_ranks_30 : decode b_M_ranks 30 = .ok (.iconst 0, 1) := by decide +kernel
theorem d_M_ranks_31 : decode b_M_ranks 31 = .ok (.istore_n 1, 1) := by decide +kernel
theorem d_M_ranks_32 : decode b_M_ranks 32 = .ok (.iload_n 1, 1) := by decide +kernel
theorem d_M_ranks_33 : decode b_M_ranks 33 = .ok (.bipush 6, 2) := by decide +kernel
theorem d_M_ranks_35 : decode b_M_ranks 35 = .ok (.if_icmp .ge 86, 3) := by decide +kernel
theorem d_M_ranks_38 : decode b_M_ranks 38 = .ok (.iconst 0, 1) := by decide +kernel
theorem d_M_ranks_39 : decode b_M_ranks 39 = .ok (.istore_n 2, 1) := by decide +kernel
theorem d_M_ranks_40 : decode b_M_ranks 40 = .ok (.iload_n 2, 1) := by decide +kernel
theorem d_M_ranks_41 : decode b_M_ranks 41 = .ok (.aload_n 0, 1) := by decide +kernel
theorem d_M_ranks_42 : decode b_M_ranks 42 = .ok (.getfield 96, 3) := by decide +kernel
theorem d_M_ranks_45 : decode b_M_ranks 45 = .ok (.if_icmp .ge 70, 3) := by decide +kernel
theorem d_M_ranks_48 : decode b_M_ranks 48 = .ok (.iconst 0, 1) := by decide +kernel
theorem d_M_ranks_49 : decode b_M_ranks 49 = .ok (.istore_n 3, 1) := by decide +kernel
theorem d_M_ranks_50 : decode b_M_ranks 50 = .ok (.iload_n 3, 1) := by decide +kernel
theorem d_M_ranks_51 : decode b_M_ranks 51 = .ok (.aload_n 0, 1) := by decide +kernel
theorem d_M_ranks_52 : decode b_M_ranks 52 = .ok (.getfield 96, 3) := by decide +kernel
theorem d_M_ranks_55 : decode b_M_ranks 55 = .ok (.if_icmp .ge 54, 3) := by decide +kernel
theorem d_M_ranks_58 : decode b_M_ranks 58 = .ok (.aload_n 0, 1) := by decide +kernel
theorem d_M_ranks_59 : decode b_M_ranks 59 = .ok (.getfield 7, 3) := by decide +kernel
theorem d_M_ranks_62 : decode b_M_ranks 62 = .ok (.bipush 6, 2) := by decide +kernel
theorem d_M_ranks_64 : decode b_M_ranks 64 = .ok (.iload_n 2, 1) := by decide +kernel
theorem d_M_ranks_65 : decode b_M_ranks 65 = .ok (.imul, 1) := by decide +kernel
theorem d_M_ranks_66 : decode b_M_ranks 66 = .ok (.iload_n 3, 1) := by decide +kernel
theorem d_M_ranks_67 : decode b_M_ranks 67 = .ok (.iadd, 1) := by decide +kernel
theorem d_M_ranks_68 : decode b_M_ranks 68 = .ok (.baload, 1) := by decide +kernel
theorem d_M_ranks_69 : decode b_M_ranks 69 = .ok (.ifCond .eq 34, 3) := by decide +kernel
theorem d_M_ranks_72 : decode b_M_ranks 72 = .ok (.aload_n 0, 1) := by decide +kernel
theorem d_M_ranks_73 : decode b_M_ranks 73 = .ok (.getfield 42, 3) := by decide +kernel
theorem d_M_ranks_76 : decode b_M_ranks 76 = .ok (.iload_n 2, 1) := by decide +kernel
theorem d_M_ranks_77 : decode b_M_ranks 77 = .ok (.iaload, 1) := by decide +kernel
theorem d_M_ranks_78 : decode b_M_ranks 78 = .ok (.iconst 1, 1) := by decide +kernel
theorem d_M_ranks_79 : decode b_M_ranks 79 = .ok (.iadd, 1) := by decide +kernel
theorem d_M_ranks_80 : decode b_M_ranks 80 = .ok (.aload_n 0, 1) := by decide +kernel
theorem d_M_ranks_81 : decode b_M_ranks 81 = .ok (.getfield 42, 3) := by decide +kernel
theorem d_M_ranks_84 : decode b_M_ranks 84 = .ok (.iload_n 3, 1) := by decide +kernel
theorem d_M_ranks_85 : decode b_M_ranks 85 = .ok (.iaload, 1) := by decide +kernel
theorem d_M_ranks_86 : decode b_M_ranks 86 = .ok (.if_icmp .ge 17, 3) := by decide +kernel
theorem d_M_ranks_89 : decode b_M_ranks 89 = .ok (.aload_n 0, 1) := by decide +kernel
theorem d_M_ranks_90 : decode b_M_ranks 90 = .ok (.getfield 42, 3) := by decide +kernel
theorem d_M_ranks_93 : decode b_M_ranks 93 = .ok (.iload_n 3, 1) := by decide +kernel
theorem d_M_ranks_94 : decode b_M_ranks 94 = .ok (.aload_n 0, 1) := by decide +kernel
theorem d_M_ranks_95 : decode b_M_ranks 95 = .ok (.getfield 42, 3) := by decide +kernel
theorem d_M_ranks_98 : decode b_M_ranks 98 = .ok (.iload_n 2, 1) := by decide +kernel
theorem d_M_ranks_99 : decode b_M_ranks 99 = .ok (.iaload, 1) := by decide +kernel
theorem d_M_ranks_100 : decode b_M_ranks 100 = .ok (.iconst 1, 1) := by decide +kernel
theorem d_M_ranks_101 : decode b_M_ranks 101 = .ok (.iadd, 1) := by decide +kernel
theorem d_M_ranks_102 : decode b_M_ranks 102 = .ok (.iastore, 1) := by decide +kernel
theorem d_M_ranks_103 : decode b_M_ranks 103 = .ok (.iinc 3 1, 3) := by decide +kernel
theorem d_M_ranks_106 : decode b_M_ranks 106 = .ok (.goto (-56), 3) := by decide +kernel
theorem d_M_ranks_109 : decode b_M_ranks 109 = .ok (.iinc 2 1, 3) := by decide +kernel
theorem d_M_ranks_112 : decode b_M_ranks 112 = .ok (.goto (-72), 3) := by decide +kernel
theorem d_M_ranks_115 : decode b_M_ranks 115 = .ok (.iinc 1 1, 3) := by decide +kernel
theorem d_M_ranks_118 : decode b_M_ranks 118 = .ok (.goto (-86), 3) := by decide +kernel
theorem d_M_ranks_121 : decode b_M_ranks 121 = .ok (.iconst 1, 1) := by decide +kernel
theorem d_M_ranks_122 : decode b_M_ranks 122 = .ok (.istore_n 1, 1) := by decide +kernel
theorem d_M_ranks_123 : decode b_M_ranks 123 = .ok (.iconst 0, 1) := by decide +kernel
theorem d_M_ranks_124 : decode b_M_ranks 124 = .ok (.istore_n 2, 1) := by decide +kernel
theorem d_M_ranks_125 : decode b_M_ranks 125 = .ok (.iload_n 2, 1) := by decide +kernel
theorem d_M_ranks_126 : decode b_M_ranks 126 = .ok (.aload_n 0, 1) := by decide +kernel
theorem d_M_ranks_127 : decode b_M_ranks 127 = .ok (.getfield 96, 3) := by decide +kernel
theorem d_M_ranks_130 : decode b_M_ranks 130 = .ok (.if_icmp .ge 30, 3) := by decide +kernel
theorem d_M_ranks_133 : decode b_M_ranks 133 = .ok (.iload_n 1, 1) := by decide +kernel
theorem d_M_ranks_134 : decode b_M_ranks 134 = .ok (.ifCond .eq 18, 3) := by decide +kernel
theorem d_M_ranks_137 : decode b_M_ranks 137 = .ok (.aload_n 0, 1) := by decide +kernel
theorem d_M_ranks_138 : decode b_M_ranks 138 = .ok (.getfield 42, 3) := by decide +kernel
theorem d_M_ranks_141 : decode b_M_ranks 141 = .ok (.iload_n 2, 1) := by decide +kernel
theorem d_M_ranks_142 : decode b_M_ranks 142 = .ok (.iaload, 1) := by decide +kernel
theorem d_M_ranks_143 : decode b_M_ranks 143 = .ok (.bipush 99, 2) := by decide +kernel
theorem d_M_ranks_145 : decode b_M_ranks 145 = .ok (.if_icmp .ge 7, 3) := by decide +kernel
theorem d_M_ranks_148 : decode b_M_ranks 148 = .ok (.iconst 1, 1) := by decide +kernel
theorem d_M_ranks_149 : decode b_M_ranks 149 = .ok (.goto 4, 3) := by decide +kernel
theorem d_M_ranks_152 : decode b_M_ranks 152 = .ok (.iconst 0, 1) := by decide +kernel
theorem d_M_ranks_153 : decode b_M_ranks 153 = .ok (.istore_n 1, 1) := by decide +kernel
theorem d_M_ranks_154 : decode b_M_ranks 154 = .ok (.iinc 2 1, 3) := by decide +kernel
theorem d_M_ranks_157 : decode b_M_ranks 157 = .ok (.goto (-32), 3) := by decide +kernel
theorem d_M_ranks_160 : decode b_M_ranks 160 = .ok (.iload_n 1, 1) := by decide +kernel
theorem d_M_ranks_161 : decode b_M_ranks 161 = .ok (.ireturn, 1) := by decide +kernel
theorem d_M_findParents_0 : decode b_M_findParents 0 = .ok (.iconst 0, 1) := by decide +kernel
theorem d_M_findParents_1 : decode b_M_findParents 1 = .ok (.istore_n 1, 1) := by decide +kernel
theorem d_M_findParents_2 : decode b_M_findParents 2 = .ok (.iload_n 1, 1) := by decide +kernel
theorem d_M_findParents_3 : decode b_M_findParents 3 = .ok (.aload_n 0, 1) := by decide +kernel
theorem d_M_findParents_4 : decode b_M_findParents 4 = .ok (.getfield 96, 3) := by decide +kernel
theorem d_M_findParents_7 : decode b_M_findParents 7 = .ok (.if_icmp .ge 97, 3) := by decide +kernel
theorem d_M_findParents_10 : decode b_M_findParents 10 = .ok (.iconst 0, 1) := by decide +kernel
theorem d_M_findParents_11 : decode b_M_findParents 11 = .ok (.istore_n 2, 1) := by decide +kernel
theorem d_M_findParents_12 : decode b_M_findParents 12 = .ok (.aload_n 0, 1) := by decide +kernel
theorem d_M_findParents_13 : decode b_M_findParents 13 = .ok (.getfield 45, 3) := by decide +kernel
theorem d_M_findParents_16 : decode b_M_findParents 16 = .ok (.iconst 2, 1) := by decide +kernel
theorem d_M_findParents_17 : decode b_M_findParents 17 = .ok (.iload_n 1, 1) := by decide +kernel
theorem d_M_findParents_18 : decode b_M_findParents 18 = .ok (.imul, 1) := by decide +kernel
theorem d_M_findParents_19 : decode b_M_findParents 19 = .ok (.iconst (-1), 1) := by decide +kernel
theorem d_M_findParents_20 : decode b_M_findParents 20 = .ok (.iastore, 1) := by decide +kernel
theorem d_M_findParents_21 : decode b_M_findParents 21 = .ok (.aload_n 0, 1) := by decide +kernel
theorem d_M_findParents_22 : decode b_M_findParents 22 = .ok (.getfield 45, 3) := by decide +kernel
theorem d_M_findParents_25 : decode b_M_findParents 25 = .ok (.iconst 2, 1) := by decide +kernel
theorem d_M_findParents_26 : decode b_M_findParents 26 = .ok (.iload_n 1, 1) := by decide +kernel
theorem d_M_findParents_27 : decode b_M_findParents 27 = .ok (.imul, 1) := by decide +kernel
theorem d_M_findParents_28 : decode b_M_findParents 28 = .ok (.iconst 1, 1) := by decide +kernel
theorem d_M_findParents_29 : decode b_M_findParents 29 = .ok (.iadd, 1) := by decide +kernel
theorem d_M_findParents_30 : decode b_M_findParents 30 = .ok (.iconst (-1), 1) := by decide +kernel
theorem d_M_findParents_31 : decode b_M_findParents 31 = .ok (.iastore, 1) := by decide +kernel
theorem d_M_findParents_32 : decode b_M_findParents 32 = .ok (.iconst 0, 1) := by decide +kernel
theorem d_M_findParents_33 : decode b_M_findParents 33 = .ok (.istore_n 3, 1) := by decide +kernel
theorem d_M_findParents_34 : decode b_M_findParents 34 = .ok (.iload_n 3, 1) := by decide +kernel
theorem d_M_findParents_35 : decode b_M_findParents 35 = .ok (.aload_n 0, 1) := by decide +kernel
theorem d_M_findParents_36 : decode b_M_findParents 36 = .ok (.getfield 96, 3) := by decide +kernel
theorem d_M_findParents_39 : decode b_M_findParents 39 = .ok (.if_icmp .ge 59, 3) := by decide +kernel
theorem d_M_findParents_42 : decode b_M_findParents 42 = .ok (.iload_n 2, 1) := by decide +kernel
theorem d_M_findParents_43 : decode b_M_findParents 43 = .ok (.iconst 2, 1) := by decide +kernel
theorem d_M_findParents_44 : decode b_M_findParents 44 = .ok (.if_icmp .ge 54, 3) := by decide +kernel
theorem d_M_findParents_47 : decode b_M_findParents 47 = .ok (.aload_n 0, 1) := by decide +kernel
theorem d_M_findParents_48 : decode b_M_findParents 48 = .ok (.getfield 7, 3) := by decide +kernel
theorem d_M_findParents_51 : decode b_M_findParents 51 = .ok (.bipush 6, 2) := by decide +kernel
theorem d_M_findParents_53 : decode b_M_findParents 53 = .ok (.iload_n 1, 1) := by decide +kernel
theorem d_M_findParents_54 : decode b_M_findParents 54 = .ok (.imul, 1) := by decide +kernel
theorem d_M_findParents_55 : decode b_M_findParents 55 = .ok (.iload_n 3, 1) := by decide +kernel
theorem d_M_findParents_56 : decode b_M_findParents 56 = .ok (.iadd, 1) := by decide +kernel
theorem d_M_findParents_57 : decode b_M_findParents 57 = .ok (.baload, 1) := by decide +kernel
theorem d_M_findParents_58 : decode b_M_findParents 58 = .ok (.ifCond .eq 34, 3) := by decide +kernel
theorem d_M_findParents_61 : decode b_M_findParents 61 = .ok (.aload_n 0, 1) := by decide +kernel
theorem d_M_findParents_62 : decode b_M_findParents 62 = .ok (.getfield 42, 3) := by decide +kernel
theorem d_M_findParents_65 : decode b_M_findParents 65 = .ok (.iload_n 3, 1) := by decide +kernel
theorem d_M_findParents_66 : decode b_M_findParents 66 = .ok (.iaload, 1) := by decide +kernel
theorem d_M_findParents_67 : decode b_M_findParents 67 = .ok (.aload_n 0, 1) := by decide +kernel
theorem d_M_findParents_68 : decode b_M_findParents 68 = .ok (.getfield 42, 3) := by decide +kernel
theorem d_M_findParents_71 : decode b_M_findParents 71 = .ok (.iload_n 1, 1) := by decide +kernel
theorem d_M_findParents_72 : decode b_M_findParents 72 = .ok (.iaload, 1) := by decide +kernel
theorem d_M_findParents_73 : decode b_M_findParents 73 = .ok (.iconst 1, 1) := by decide +kernel
theorem d_M_findParents_74 : decode b_M_findParents 74 = .ok (.isub, 1) := by decide +kernel
theorem d_M_findParents_75 : decode b_M_findParents 75 = .ok (.if_icmp .ne 17, 3) := by decide +kernel
theorem d_M_findParents_78 : decode b_M_findParents 78 = .ok (.aload_n 0, 1) := by decide +kernel
theorem d_M_findParents_79 : decode b_M_findParents 79 = .ok (.getfield 45, 3) := by decide +kernel
theorem d_M_findParents_82 : decode b_M_findParents 82 = .ok (.iconst 2, 1) := by decide +kernel
theorem d_M_findParents_83 : decode b_M_findParents 83 = .ok (.iload_n 1, 1) := by decide +kernel
theorem d_M_findParents_84 : decode b_M_findParents 84 = .ok (.imul, 1) := by decide +kernel
theorem d_M_findParents_85 : decode b_M_findParents 85 = .ok (.iload_n 2, 1) := by decide +kernel
theorem d_M_findParents_86 : decode b_M_findParents 86 = .ok (.iadd, 1) := by decide +kernel
theorem d_M_findParents_87 : decode b_M_findParents 87 = .ok (.iload_n 3, 1) := by decide +kernel
theorem d_M_findParents_88 : decode b_M_findParents 88 = .ok (.iastore, 1) := by decide +kernel
theorem d_M_findParents_89 : decode b_M_findParents 89 = .ok (.iinc 2 1, 3) := by decide +kernel
theorem d_M_findParents_92 : decode b_M_findParents 92 = .ok (.iinc 3 1, 3) := by decide +kernel
theorem d_M_findParents_95 : decode b_M_findParents 95 = .ok (.goto (-61), 3) := by decide +kernel
theorem d_M_findParents_98 : decode b_M_findParents 98 = .ok (.iinc 1 1, 3) := by decide +kernel
theorem d_M_findParents_101 : decode b_M_findParents 101 = .ok (.goto (-99), 3) := by decide +kernel
theorem d_M_findParents_104 : decode b_M_findParents 104 = .ok (.return_, 1) := by decide +kernel
theorem d_M_first_0 : decode b_M_first 0 = .ok (.iload_n 0, 1) := by decide +kernel
theorem d_M_first_1 : decode b_M_first 1 = .ok (.ifCond .ne 8, 3) := by decide +kernel
theorem d_M_first_4 : decode b_M_first 4 = .ok (.bipush 9, 2) := by decide +kernel
theorem d_M_first_6 : decode b_M_first 6 = .ok (.goto 10, 3) := by decide +kernel
theorem d_M_first_9 : decode b_M_first 9 = .ok (.iload_n 0, 1) := by decide +kernel
theorem d_M_first_10 : decode b_M_first 10 = .ok (.bipush 10, 2) := by decide +kernel
theorem d_M_first_12 : decode b_M_first 12 = .ok (.idiv, 1) := by decide +kernel
theorem d_M_first_13 : decode b_M_first 13 = .ok (.bipush 10, 2) := by decide +kernel
theorem d_M_first_15 : decode b_M_first 15 = .ok (.irem, 1) := by decide +kernel
theorem d_M_first_16 : decode b_M_first 16 = .ok (.ireturn, 1) := by decide +kernel
theorem d_M_second_0 : decode b_M_second 0 = .ok (.iload_n 0, 1) := by decide +kernel
theorem d_M_second_1 : decode b_M_second 1 = .ok (.sipush 200, 3) := by decide +kernel
theorem d_M_second_4 : decode b_M_second 4 = .ok (.if_icmp .ge 8, 3) := by decide +kernel
theorem d_M_second_7 : decode b_M_second 7 = .ok (.bipush 9, 2) := by decide +kernel
theorem d_M_second_9 : decode b_M_second 9 = .ok (.goto 7, 3) := by decide +kernel
theorem d_M_second_12 : decode b_M_second 12 = .ok (.iload_n 0, 1) := by decide +kernel
theorem d_M_second_13 : decode b_M_second 13 = .ok (.bipush 10, 2) := by decide +kernel
theorem d_M_second_15 : decode b_M_second 15 = .ok (.irem, 1) := by decide +kernel
theorem d_M_second_16 : decode b_M_second 16 = .ok (.ireturn, 1) := by decide +kernel
theorem d_M_placeAdvert_0 : decode b_M_placeAdvert 0 = .ok (.iconst 0, 1) := by decide +kernel
theorem d_M_placeAdvert_1 : decode b_M_placeAdvert 1 = .ok (.istore_n 2, 1) := by decide +kernel
theorem d_M_placeAdvert_2 : decode b_M_placeAdvert 2 = .ok (.iload_n 2, 1) := by decide +kernel
theorem d_M_placeAdvert_3 : decode b_M_placeAdvert 3 = .ok (.aload_n 0, 1) := by decide +kernel
theorem d_M_placeAdvert_4 : decode b_M_placeAdvert 4 = .ok (.getfield 100, 3) := by decide +kernel
theorem d_M_placeAdvert_7 : decode b_M_placeAdvert 7 = .ok (.if_icmp .ge 55, 3) := by decide +kernel
theorem d_M_placeAdvert_10 : decode b_M_placeAdvert 10 = .ok (.aload_n 0, 1) := by decide +kernel
theorem d_M_placeAdvert_11 : decode b_M_placeAdvert 11 = .ok (.getfield 48, 3) := by decide +kernel
theorem d_M_placeAdvert_14 : decode b_M_placeAdvert 14 = .ok (.iconst 4, 1) := by decide +kernel
theorem d_M_placeAdvert_15 : decode b_M_placeAdvert 15 = .ok (.iload_n 2, 1) := by decide +kernel
theorem d_M_placeAdvert_16 : decode b_M_placeAdvert 16 = .ok (.imul, 1) := by decide +kernel
theorem d_M_placeAdvert_17 : decode b_M_placeAdvert 17 = .ok (.iaload, 1) := by decide +kernel
theorem d_M_placeAdvert_18 : decode b_M_placeAdvert 18 = .ok (.ifCond .ne 38, 3) := by decide +kernel
theorem d_M_placeAdvert_21 : decode b_M_placeAdvert 21 = .ok (.iconst 0, 1) := by decide +kernel
theorem d_M_placeAdvert_22 : decode b_M_placeAdvert 22 = .ok (.istore_n 3, 1) := by decide +kernel
theorem d_M_placeAdvert_23 : decode b_M_placeAdvert 23 = .ok (.iload_n 3, 1) := by decide +kernel
theorem d_M_placeAdvert_24 : decode b_M_placeAdvert 24 = .ok (.aload_n 0, 1) := by decide +kernel
theorem d_M_placeAdvert_25 : decode b_M_placeAdvert 25 = .ok (.getfield 103, 3) := by decide +kernel
theorem d_M_placeAdvert_28 : decode b_M_placeAdvert 28 = .ok (.if_icmp .ge 26, 3) := by decide +kernel
theorem d_M_placeAdvert_31 : decode b_M_placeAdvert 31 = .ok (.aload_n 0, 1) := by decide +kernel
theorem d_M_placeAdvert_32 : decode b_M_placeAdvert 32 = .ok (.getfield 48, 3) := by decide +kernel
theorem d_M_placeAdvert_35 : decode b_M_placeAdvert 35 = .ok (.iconst 4, 1) := by decide +kernel
theorem d_M_placeAdvert_36 : decode b_M_placeAdvert 36 = .ok (.iload_n 2, 1) := by decide +kernel
theorem d_M_placeAdvert_37 : decode b_M_placeAdvert 37 = .ok (.imul, 1) := by decide +kernel
theorem d_M_placeAdvert_38 : decode b_M_placeAdvert 38 = .ok (.iload_n 3, 1) := by decide +kernel
theorem d_M_placeAdvert_39 : decode b_M_placeAdvert 39 = .ok (.iadd, 1) := by decide +kernel
theorem d_M_placeAdvert_40 : decode b_M_placeAdvert 40 = .ok (.bipush 100, 2) := by decide +kernel
theorem d_M_placeAdvert_42 : decode b_M_placeAdvert 42 = .ok (.bipush 10, 2) := by decide +kernel
theorem d_M_placeAdvert_44 : decode b_M_placeAdvert 44 = .ok (.iload_n 1, 1) := by decide +kernel
theorem d_M_placeAdvert_45 : decode b_M_placeAdvert 45 = .ok (.imul, 1) := by decide +kernel
theorem d_M_placeAdvert_46 : decode b_M_placeAdvert 46 = .ok (.iadd, 1) := by decide +kernel
theorem d_M_placeAdvert_47 : decode b_M_placeAdvert 47 = .ok (.iastore, 1) := by decide +kernel
theorem d_M_placeAdvert_48 : decode b_M_placeAdvert 48 = .ok (.iinc 3 1, 3) := by decide +kernel
theorem d_M_placeAdvert_51 : decode b_M_placeAdvert 51 = .ok (.goto (-28), 3) := by decide +kernel
theorem d_M_placeAdvert_54 : decode b_M_placeAdvert 54 = .ok (.iconst 1, 1) := by decide +kernel
theorem d_M_placeAdvert_55 : decode b_M_placeAdvert 55 = .ok (.ireturn, 1) := by decide +kernel
theorem d_M_placeAdvert_56 : decode b_M_placeAdvert 56 = .ok (.iinc 2 1, 3) := by decide +kernel
theorem d_M_placeAdvert_59 : decode b_M_placeAdvert 59 = .ok (.goto (-57), 3) := by decide +kernel
theorem d_M_placeAdvert_62 : decode b_M_placeAdvert 62 = .ok (.iconst 0, 1) := by decide +kernel
theorem d_M_placeAdvert_63 : decode b_M_placeAdvert 63 = .ok (.ireturn, 1) := by decide +kernel
theorem d_M_place_0 : decode b_M_place 0 = .ok (.iconst 0, 1) := by decide +kernel
theorem d_M_place_1 : decode b_M_place 1 = .ok (.istore_n 2, 1) := by decide +kernel
theorem d_M_place_2 : decode b_M_place 2 = .ok (.iload_n 2, 1) := by decide +kernel
theorem d_M_place_3 : decode b_M_place 3 = .ok (.aload_n 0, 1) := by decide +kernel
theorem d_M_place_4 : decode b_M_place 4 = .ok (.getfield 100, 3) := by decide +kernel
theorem d_M_place_7 : decode b_M_place 7 = .ok (.if_icmp .ge 188, 3) := by decide +kernel
theorem d_M_place_10 : decode b_M_place 10 = .ok (.iconst (-1), 1) := by decide +kernel
theorem d_M_place_11 : decode b_M_place 11 = .ok (.istore_n 3, 1) := by decide +kernel
theorem d_M_place_12 : decode b_M_place 12 = .ok (.aload_n 0, 1) := by decide +kernel
theorem d_M_place_13 : decode b_M_place 13 = .ok (.getfield 48, 3) := by decide +kernel
theorem d_M_place_16 : decode b_M_place 16 = .ok (.iconst 4, 1) := by decide +kernel
theorem d_M_place_17 : decode b_M_place 17 = .ok (.iload_n 2, 1) := by decide +kernel
theorem d_M_place_18 : decode b_M_place 18 = .ok (.imul, 1) := by decide +kernel
theorem d_M_place_19 : decode b_M_place 19 = .ok (.iaload, 1) := by decide +kernel
theorem d_M_place_20 : decode b_M_place 20 = .ok (.bipush 100, 2) := by decide +kernel
theorem d_M_place_22 : decode b_M_place 22 = .ok (.if_icmp .lt 17, 3) := by decide +kernel
theorem d_M_place_25 : decode b_M_place 25 = .ok (.aload_n 0, 1) := by decide +kernel
theorem d_M_place_26 : decode b_M_place 26 = .ok (.getfield 48, 3) := by decide +kernel
theorem d_M_place_29 : decode b_M_place 29 = .ok (.iconst 4, 1) := by decide +kernel
theorem d_M_place_30 : decode b_M_place 30 = .ok (.iload_n 2, 1) := by decide +kernel
theorem d_M_place_31 : decode b_M_place 31 = .ok (.imul, 1) := by decide +kernel
theorem d_M_place_32 : decode b_M_place 32 = .ok (.iaload, 1) := by decide +kernel
theorem d_M_place_33 : decode b_M_place 33 = .ok (.sipush 200, 3) := by decide +kernel
theorem d_M_place_36 : decode b_M_place 36 = .ok (.if_icmp .lt 7, 3) := by decide +kernel
theorem d_M_place_39 : decode b_M_place 39 = .ok (.iconst 1, 1) := by decide +kernel
theorem d_M_place_40 : decode b_M_place 40 = .ok (.goto 4, 3) := by decide +kernel
theorem d_M_place_43 : decode b_M_place 43 = .ok (.iconst 0, 1) := by decide +kernel
theorem d_M_place_44 : decode b_M_place 44 = .ok (.istore 4, 2) := by decide +kernel
theorem d_M_place_46 : decode b_M_place 46 = .ok (.aload_n 0, 1) := by decide +kernel
theorem d_M_place_47 : decode b_M_place 47 = .ok (.getfield 103, 3) := by decide +kernel
theorem d_M_place_50 : decode b_M_place 50 = .ok (.iconst 1, 1) := by decide +kernel
theorem d_M_place_51 : decode b_M_place 51 = .ok (.isub, 1) := by decide +kernel
theorem d_M_place_52 : decode b_M_place 52 = .ok (.istore 5, 2) := by decide +kernel
theorem d_M_place_54 : decode b_M_place 54 = .ok (.iload 5, 2) := by decide +kernel
theorem d_M_place_56 : decode b_M_place 56 = .ok (.ifCond .lt 111, 3) := by decide +kernel
theorem d_M_place_59 : decode b_M_place 59 = .ok (.aload_n 0, 1) := by decide +kernel
theorem d_M_place_60 : decode b_M_place 60 = .ok (.getfield 48, 3) := by decide +kernel
theorem d_M_place_63 : decode b_M_place 63 = .ok (.iconst 4, 1) := by decide +kernel
theorem d_M_place_64 : decode b_M_place 64 = .ok (.iload_n 2, 1) := by decide +kernel
theorem d_M_place_65 : decode b_M_place 65 = .ok (.imul, 1) := by decide +kernel
theorem d_M_place_66 : decode b_M_place 66 = .ok (.iload 5, 2) := by decide +kernel
theorem d_M_place_68 : decode b_M_place 68 = .ok (.iadd, 1) := by decide +kernel
theorem d_M_place_69 : decode b_M_place 69 = .ok (.iaload, 1) := by decide +kernel
theorem d_M_place_70 : decode b_M_place 70 = .ok (.istore 6, 2) := by decide +kernel
theorem d_M_place_72 : decode b_M_place 72 = .ok (.iload 6, 2) := by decide +kernel
theorem d_M_place_74 : decode b_M_place 74 = .ok (.ifCond .ne 8, 3) := by decide +kernel
theorem d_M_place_77 : decode b_M_place 77 = .ok (.iload 5, 2) := by decide +kernel
theorem d_M_place_79 : decode b_M_place 79 = .ok (.goto 4, 3) := by decide +kernel
theorem d_M_place_82 : decode b_M_place 82 = .ok (.iload_n 3, 1) := by decide +kernel
theorem d_M_place_83 : decode b_M_place 83 = .ok (.istore_n 3, 1) := by decide +kernel
theorem d_M_place_84 : decode b_M_place 84 = .ok (.iload 6, 2) := by decide +kernel
theorem d_M_place_86 : decode b_M_place 86 = .ok (.invokestatic 112, 3) := by decide +kernel
theorem d_M_place_89 : decode b_M_place 89 = .ok (.iload_n 1, 1) := by decide +kernel
theorem d_M_place_90 : decode b_M_place 90 = .ok (.invokestatic 112, 3) := by decide +kernel
theorem d_M_place_93 : decode b_M_place 93 = .ok (.if_icmp .eq 39, 3) := by decide +kernel
theorem d_M_place_96 : decode b_M_place 96 = .ok (.iload 6, 2) := by decide +kernel
theorem d_M_place_98 : decode b_M_place 98 = .ok (.invokestatic 112, 3) := by decide +kernel
theorem d_M_place_101 : decode b_M_place 101 = .ok (.iload_n 1, 1) := by decide +kernel
theorem d_M_place_102 : decode b_M_place 102 = .ok (.invokestatic 116, 3) := by decide +kernel
theorem d_M_place_105 : decode b_M_place 105 = .ok (.if_icmp .eq 27, 3) := by decide +kernel
theorem d_M_place_108 : decode b_M_place 108 = .ok (.iload 6, 2) := by decide +kernel
theorem d_M_place_110 : decode b_M_place 110 = .ok (.invokestatic 116, 3) := by decide +kernel
theorem d_M_place_113 : decode b_M_place 113 = .ok (.iload_n 1, 1) := by decide +kernel
theorem d_M_place_114 : decode b_M_place 114 = .ok (.invokestatic 112, 3) := by decide +kernel
theorem d_M_place_117 : decode b_M_place 117 = .ok (.if_icmp .eq 15, 3) := by decide +kernel
theorem d_M_place_120 : decode b_M_place 120 = .ok (.iload 6, 2) := by decide +kernel
theorem d_M_place_122 : decode b_M_place 122 = .ok (.invokestatic 116, 3) := by decide +kernel
theorem d_M_place_125 : decode b_M_place 125 = .ok (.iload_n 1, 1) := by decide +kernel
theorem d_M_place_126 : decode b_M_place 126 = .ok (.invokestatic 116, 3) := by decide +kernel
theorem d_M_place_129 : decode b_M_place 129 = .ok (.if_icmp .ne 7, 3) := by decide +kernel
theorem d_M_place_132 : decode b_M_place 132 = .ok (.iconst 1, 1) := by decide +kernel
theorem d_M_place_133 : decode b_M_place 133 = .ok (.goto 4, 3) := by decide +kernel
theorem d_M_place_136 : decode b_M_place 136 = .ok (.iconst 0, 1) := by decide +kernel
theorem d_M_place_137 : decode b_M_place 137 = .ok (.istore 7, 2) := by decide +kernel
theorem d_M_place_139 : decode b_M_place 139 = .ok (.iload 4, 2) := by decide +kernel
theorem d_M_place_141 : decode b_M_place 141 = .ok (.ifCond .eq 17, 3) := by decide +kernel
theorem d_M_place_144 : decode b_M_place 144 = .ok (.iload 6, 2) := by decide +kernel
theorem d_M_place_146 : decode b_M_place 146 = .ok (.ifCond .eq 8, 3) := by decide +kernel
theorem d_M_place_149 : decode b_M_place 149 = .ok (.iload 7, 2) := by decide +kernel
theorem d_M_place_151 : decode b_M_place 151 = .ok (.ifCond .ne 7, 3) := by decide +kernel
theorem d_M_place_154 : decode b_M_place 154 = .ok (.iconst 1, 1) := by decide +kernel
theorem d_M_place_155 : decode b_M_place 155 = .ok (.goto 4, 3) := by decide +kernel
theorem d_M_place_158 : decode b_M_place 158 = .ok (.iconst 0, 1) := by decide +kernel
theorem d_M_place_159 : decode b_M_place 159 = .ok (.istore 4, 2) := by decide +kernel
theorem d_M_place_161 : decode b_M_place 161 = .ok (.iinc 5 (-1), 3) := by decide +kernel
theorem d_M_place_164 : decode b_M_place 164 = .ok (.goto (-110), 3) := by decide +kernel
theorem d_M_place_167 : decode b_M_place 167 = .ok (.iload 4, 2) := by decide +kernel
theorem d_M_place_169 : decode b_M_place 169 = .ok (.ifCond .eq 20, 3) := by decide +kernel
theorem d_M_place_172 : decode b_M_place 172 = .ok (.iload_n 3, 1) := by decide +kernel
theorem d_M_place_173 : decode b_M_place 173 = .ok (.ifCond .lt 16, 3) := by decide +kernel
theorem d_M_place_176 : decode b_M_place 176 = .ok (.aload_n 0, 1) := by decide +kernel
theorem d_M_place_177 : decode b_M_place 177 = .ok (.getfield 48, 3) := by decide +kernel
theorem d_M_place_180 : decode b_M_place 180 = .ok (.iconst 4, 1) := by decide +kernel
theorem d_M_place_181 : decode b_M_place 181 = .ok (.iload_n 2, 1) := by decide +kernel
theorem d_M_place_182 : decode b_M_place 182 = .ok (.imul, 1) := by decide +kernel
theorem d_M_place_183 : decode b_M_place 183 = .ok (.iload_n 3, 1) := by decide +kernel
theorem d_M_place_184 : decode b_M_place 184 = .ok (.iadd, 1) := by decide +kernel
theorem d_M_place_185 : decode b_M_place 185 = .ok (.iload_n 1, 1) := by decide +kernel
theorem d_M_place_186 : decode b_M_place 186 = .ok (.iastore, 1) := by decide +kernel
theorem d_M_place_187 : decode b_M_place 187 = .ok (.iconst 1, 1) := by decide +kernel
theorem d_M_place_188 : decode b_M_place 188 = .ok (.ireturn, 1) := by decide +kernel
theorem d_M_place_189 : decode b_M_place 189 = .ok (.iinc 2 1, 3) := by decide +kernel
theorem d_M_place_192 : decode b_M_place 192 = .ok (.goto (-190), 3) := by decide +kernel
theorem d_M_place_195 : decode b_M_place 195 = .ok (.iconst 0, 1) := by decide +kernel
theorem d_M_place_196 : decode b_M_place 196 = .ok (.ireturn, 1) := by decide +kernel
theorem d_M_placeAll_0 : decode b_M_placeAll 0 = .ok (.iconst 1, 1) := by decide +kernel
theorem d_M_placeAll_1 : decode b_M_placeAll 1 = .ok (.istore_n 1, 1) := by decide +kernel
theorem d_M_placeAll_2 : decode b_M_placeAll 2 = .ok (.iconst 0, 1) := by decide +kernel
theorem d_M_placeAll_3 : decode b_M_placeAll 3 = .ok (.istore_n 2, 1) := by decide +kernel
theorem d_M_placeAll_4 : decode b_M_placeAll 4 = .ok (.iload_n 2, 1) := by decide +kernel
theorem d_M_placeAll_5 : decode b_M_placeAll 5 = .ok (.bipush 96, 2) := by decide +kernel
theorem d_M_placeAll_7 : decode b_M_placeAll 7 = .ok (.if_icmp .ge 16, 3) := by decide +kernel
theorem d_M_placeAll_10 : decode b_M_placeAll 10 = .ok (.aload_n 0, 1) := by decide +kernel
theorem d_M_placeAll_11 : decode b_M_placeAll 11 = .ok (.getfield 48, 3) := by decide +kernel
theorem d_M_placeAll_14 : decode b_M_placeAll 14 = .ok (.iload_n 2, 1) := by decide +kernel
theorem d_M_placeAll_15 : decode b_M_placeAll 15 = .ok (.iconst 0, 1) := by decide +kernel
theorem d_M_placeAll_16 : decode b_M_placeAll 16 = .ok (.iastore, 1) := by decide +kernel
theorem d_M_placeAll_17 : decode b_M_placeAll 17 = .ok (.iinc 2 1, 3) := by decide +kernel
theorem d_M_placeAll_20 : decode b_M_placeAll 20 = .ok (.goto (-16), 3) := by decide +kernel
theorem d_M_placeAll_23 : decode b_M_placeAll 23 = .ok (.iconst 0, 1) := by decide +kernel
theorem d_M_placeAll_24 : decode b_M_placeAll 24 = .ok (.istore_n 2, 1) := by decide +kernel
theorem d_M_placeAll_25 : decode b_M_placeAll 25 = .ok (.iload_n 2, 1) := by decide +kernel
theorem d_M_placeAll_26 : decode b_M_placeAll 26 = .ok (.bipush 6, 2) := by decide +kernel
theorem d_M_placeAll_28 : decode b_M_placeAll 28 = .ok (.if_icmp .ge 45, 3) := by decide +kernel
theorem d_M_placeAll_31 : decode b_M_placeAll 31 = .ok (.iconst 0, 1) := by decide +kernel
theorem d_M_placeAll_32 : decode b_M_placeAll 32 = .ok (.istore_n 3, 1) := by decide +kernel
theorem d_M_placeAll_33 : decode b_M_placeAll 33 = .ok (.iload_n 3, 1) := by decide +kernel
theorem d_M_placeAll_34 : decode b_M_placeAll 34 = .ok (.aload_n 0, 1) := by decide +kernel
theorem d_M_placeAll_35 : decode b_M_placeAll 35 = .ok (.getfield 96, 3) := by decide +kernel
theorem d_M_placeAll_38 : decode b_M_placeAll 38 = .ok (.if_icmp .ge 29, 3) := by decide +kernel
theorem d_M_placeAll_41 : decode b_M_placeAll 41 = .ok (.iload_n 1, 1) := by decide +kernel
theorem d_M_placeAll_42 : decode b_M_placeAll 42 = .ok (.ifCond .eq 25, 3) := by decide +kernel
theorem d_M_placeAll_45 : decode b_M_placeAll 45 = .ok (.aload_n 0, 1) := by decide +kernel
theorem d_M_placeAll_46 : decode b_M_placeAll 46 = .ok (.getfield 42, 3) := by decide +kernel
theorem d_M_placeAll_49 : decode b_M_placeAll 49 = .ok (.iload_n 3, 1) := by decide +kernel
theorem d_M_placeAll_50 : decode b_M_placeAll 50 = .ok (.iaload, 1) := by decide +kernel
theorem d_M_placeAll_51 : decode b_M_placeAll 51 = .ok (.iload_n 2, 1) := by decide +kernel
theorem d_M_placeAll_52 : decode b_M_placeAll 52 = .ok (.if_icmp .ne 9, 3) := by decide +kernel
theorem d_M_placeAll_55 : decode b_M_placeAll 55 = .ok (.aload_n 0, 1) := by decide +kernel
theorem d_M_placeAll_56 : decode b_M_placeAll 56 = .ok (.iload_n 3, 1) := by decide +kernel
theorem d_M_placeAll_57 : decode b_M_placeAll 57 = .ok (.invokevirtual 119, 3) := by decide +kernel
theorem d_M_placeAll_60 : decode b_M_placeAll 60 = .ok (.istore_n 1, 1) := by decide +kernel
theorem d_M_placeAll_61 : decode b_M_placeAll 61 = .ok (.iinc 3 1, 3) := by decide +kernel
theorem d_M_placeAll_64 : decode b_M_placeAll 64 = .ok (.goto (-31), 3) := by decide +kernel
theorem d_M_placeAll_67 : decode b_M_placeAll 67 = .ok (.iinc 2 1, 3) := by decide +kernel
theorem d_M_placeAll_70 : decode b_M_placeAll 70 = .ok (.goto (-45), 3) := by decide +kernel
theorem d_M_placeAll_73 : decode b_M_placeAll 73 = .ok (.iconst 1, 1) := by decide +kernel
theorem d_M_placeAll_74 : decode b_M_placeAll 74 = .ok (.istore_n 2, 1) := by decide +kernel
theorem d_M_placeAll_75 : decode b_M_placeAll 75 = .ok (.iload_n 2, 1) := by decide +kernel
theorem d_M_placeAll_76 : decode b_M_placeAll 76 = .ok (.bipush 6, 2) := by decide +kernel
theorem d_M_placeAll_78 : decode b_M_placeAll 78 = .ok (.if_icmp .ge 125, 3) := by decide +kernel
theorem d_M_placeAll_81 : decode b_M_placeAll 81 = .ok (.iconst 0, 1) := by decide +kernel
theorem d_M_placeAll_82 : decode b_M_placeAll 82 = .ok (.istore_n 3, 1) := by decide +kernel
theorem d_M_placeAll_83 : decode b_M_placeAll 83 = .ok (.iload_n 3, 1) := by decide +kernel
theorem d_M_placeAll_84 : decode b_M_placeAll 84 = .ok (.aload_n 0, 1) := by decide +kernel
theorem d_M_placeAll_85 : decode b_M_placeAll 85 = .ok (.getfield 96, 3) := by decide +kernel
theorem d_M_placeAll_88 : decode b_M_placeAll 88 = .ok (.if_icmp .ge 109, 3) := by decide +kernel
theorem d_M_placeAll_91 : decode b_M_placeAll 91 = .ok (.iload_n 1, 1) := by decide +kernel
theorem d_M_placeAll_92 : decode b_M_placeAll 92 = .ok (.ifCond .eq 105, 3) := by decide +kernel
theorem d_M_placeAll_95 : decode b_M_placeAll 95 = .ok (.aload_n 0, 1) := by decide +kernel
theorem d_M_placeAll_96 : decode b_M_placeAll 96 = .ok (.getfield 45, 3) := by decide +kernel
theorem d_M_placeAll_99 : decode b_M_placeAll 99 = .ok (.iconst 2, 1) := by decide +kernel
theorem d_M_placeAll_100 : decode b_M_placeAll 100 = .ok (.iload_n 3, 1) := by decide +kernel
theorem d_M_placeAll_101 : decode b_M_placeAll 101 = .ok (.imul, 1) := by decide +kernel
theorem d_M_placeAll_102 : decode b_M_placeAll 102 = .ok (.iaload, 1) := by decide +kernel
theorem d_M_placeAll_103 : decode b_M_placeAll 103 = .ok (.istore 4, 2) := by decide +kernel
theorem d_M_placeAll_105 : decode b_M_placeAll 105 = .ok (.aload_n 0, 1) := by decide +kernel
theorem d_M_placeAll_106 : decode b_M_placeAll 106 = .ok (.getfield 45, 3) := by decide +kernel
theorem d_M_placeAll_109 : decode b_M_placeAll 109 = .ok (.iconst 2, 1) := by decide +kernel
theorem d_M_placeAll_110 : decode b_M_placeAll 110 = .ok (.iload_n 3, 1) := by decide +kernel
theorem d_M_placeAll_111 : decode b_M_placeAll 111 = .ok (.imul, 1) := by decide +kernel
theorem d_M_placeAll_112 : decode b_M_placeAll 112 = .ok (.iconst 1, 1) := by decide +kernel
theorem d_M_placeAll_113 : decode b_M_placeAll 113 = .ok (.iadd, 1) := by decide +kernel
theorem d_M_placeAll_114 : decode b_M_placeAll 114 = .ok (.iaload, 1) := by decide +kernel
theorem d_M_placeAll_115 : decode b_M_placeAll 115 = .ok (.istore 5, 2) := by decide +kernel
theorem d_M_placeAll_117 : decode b_M_placeAll 117 = .ok (.aload_n 0, 1) := by decide +kernel
theorem d_M_placeAll_118 : decode b_M_placeAll 118 = .ok (.getfield 42, 3) := by decide +kernel
theorem d_M_placeAll_121 : decode b_M_placeAll 121 = .ok (.iload_n 3, 1) := by decide +kernel
theorem d_M_placeAll_122 : decode b_M_placeAll 122 = .ok (.iaload, 1) := by decide +kernel
theorem d_M_placeAll_123 : decode b_M_placeAll 123 = .ok (.iload_n 2, 1) := by decide +kernel
theorem d_M_placeAll_124 : decode b_M_placeAll 124 = .ok (.if_icmp .eq 6, 3) := by decide +kernel
theorem d_M_placeAll_127 : decode b_M_placeAll 127 = .ok (.goto 64, 3) := by decide +kernel
theorem d_M_placeAll_130 : decode b_M_placeAll 130 = .ok (.aload_n 0, 1) := by decide +kernel
theorem d_M_placeAll_131 : decode b_M_placeAll 131 = .ok (.sipush 200, 3) := by decide +kernel
theorem d_M_placeAll_134 : decode b_M_placeAll 134 = .ok (.bipush 10, 2) := by decide +kernel
theorem d_M_placeAll_136 : decode b_M_placeAll 136 = .ok (.iload_n 3, 1) := by decide +kernel
theorem d_M_placeAll_137 : decode b_M_placeAll 137 = .ok (.imul, 1) := by decide +kernel
theorem d_M_placeAll_138 : decode b_M_placeAll 138 = .ok (.iadd, 1) := by decide +kernel
theorem d_M_placeAll_139 : decode b_M_placeAll 139 = .ok (.iload 4, 2) := by decide +kernel
theorem d_M_placeAll_141 : decode b_M_placeAll 141 = .ok (.iadd, 1) := by decide +kernel
theorem d_M_placeAll_142 : decode b_M_placeAll 142 = .ok (.invokevirtual 122, 3) := by decide +kernel
theorem d_M_placeAll_145 : decode b_M_placeAll 145 = .ok (.istore_n 1, 1) := by decide +kernel
theorem d_M_placeAll_146 : decode b_M_placeAll 146 = .ok (.iload_n 1, 1) := by decide +kernel
theorem d_M_placeAll_147 : decode b_M_placeAll 147 = .ok (.ifCond .eq 24, 3) := by decide +kernel
theorem d_M_placeAll_150 : decode b_M_placeAll 150 = .ok (.iload 5, 2) := by decide +kernel
theorem d_M_placeAll_152 : decode b_M_placeAll 152 = .ok (.ifCond .lt 19, 3) := by decide +kernel
theorem d_M_placeAll_155 : decode b_M_placeAll 155 = .ok (.aload_n 0, 1) := by decide +kernel
theorem d_M_placeAll_156 : decode b_M_placeAll 156 = .ok (.sipush 200, 3) := by decide +kernel
theorem d_M_placeAll_159 : decode b_M_placeAll 159 = .ok (.bipush 10, 2) := by decide +kernel
theorem d_M_placeAll_161 : decode b_M_placeAll 161 = .ok (.iload_n 3, 1) := by decide +kernel
theorem d_M_placeAll_162 : decode b_M_placeAll 162 = .ok (.imul, 1) := by decide +kernel
theorem d_M_placeAll_163 : decode b_M_placeAll 163 = .ok (.iadd, 1) := by decide +kernel
theorem d_M_placeAll_164 : decode b_M_placeAll 164 = .ok (.iload 5, 2) := by decide +kernel
theorem d_M_placeAll_166 : decode b_M_placeAll 166 = .ok (.iadd, 1) := by decide +kernel
theorem d_M_placeAll_167 : decode b_M_placeAll 167 = .ok (.invokevirtual 122, 3) := by decide +kernel
theorem d_M_placeAll_170 : decode b_M_placeAll 170 = .ok (.istore_n 1, 1) := by decide +kernel
theorem d_M_placeAll_171 : decode b_M_placeAll 171 = .ok (.iload_n 1, 1) := by decide +kernel
theorem d_M_placeAll_172 : decode b_M_placeAll 172 = .ok (.ifCond .eq 19, 3) := by decide +kernel
theorem d_M_placeAll_175 : decode b_M_placeAll 175 = .ok (.aload_n 0, 1) := by decide +kernel
theorem d_M_placeAll_176 : decode b_M_placeAll 176 = .ok (.sipush 300, 3) := by decide +kernel
theorem d_M_placeAll_179 : decode b_M_placeAll 179 = .ok (.bipush 10, 2) := by decide +kernel
theorem d_M_placeAll_181 : decode b_M_placeAll 181 = .ok (.iload 4, 2) := by decide +kernel
theorem d_M_placeAll_183 : decode b_M_placeAll 183 = .ok (.imul, 1) := by decide +kernel
theorem d_M_placeAll_184 : decode b_M_placeAll 184 = .ok (.iadd, 1) := by decide +kernel
theorem d_M_placeAll_185 : decode b_M_placeAll 185 = .ok (.iload_n 3, 1) := by decide +kernel
theorem d_M_placeAll_186 : decode b_M_placeAll 186 = .ok (.iadd, 1) := by decide +kernel
theorem d_M_placeAll_187 : decode b_M_placeAll 187 = .ok (.invokevirtual 122, 3) := by decide +kernel
theorem d_M_placeAll_190 : decode b_M_placeAll 190 = .ok (.istore_n 1, 1) := by decide +kernel
theorem d_M_placeAll_191 : decode b_M_placeAll 191 = .ok (.iinc 3 1, 3) := by decide +kernel
theorem d_M_placeAll_194 : decode b_M_placeAll 194 = .ok (.goto (-111), 3) := by decide +kernel
theorem d_M_placeAll_197 : decode b_M_placeAll 197 = .ok (.iinc 2 1, 3) := by decide +kernel
theorem d_M_placeAll_200 : decode b_M_placeAll 200 = .ok (.goto (-125), 3) := by decide +kernel
theorem d_M_placeAll_203 : decode b_M_placeAll 203 = .ok (.iload_n 1, 1) := by decide +kernel
theorem d_M_placeAll_204 : decode b_M_placeAll 204 = .ok (.ireturn, 1) := by decide +kernel
theorem d_M_plan_0 : decode b_M_plan 0 = .ok (.aload_n 0, 1) := by decide +kernel
theorem d_M_plan_1 : decode b_M_plan 1 = .ok (.invokevirtual 125, 3) := by decide +kernel
theorem d_M_plan_4 : decode b_M_plan 4 = .ok (.ifCond .ne 5, 3) := by decide +kernel
theorem d_M_plan_7 : decode b_M_plan 7 = .ok (.iconst (-1), 1) := by decide +kernel
theorem d_M_plan_8 : decode b_M_plan 8 = .ok (.ireturn, 1) := by decide +kernel
theorem d_M_plan_9 : decode b_M_plan 9 = .ok (.aload_n 0, 1) := by decide +kernel
theorem d_M_plan_10 : decode b_M_plan 10 = .ok (.invokevirtual 129, 3) := by decide +kernel
theorem d_M_plan_13 : decode b_M_plan 13 = .ok (.aload_n 0, 1) := by decide +kernel
theorem d_M_plan_14 : decode b_M_plan 14 = .ok (.invokevirtual 132, 3) := by decide +kernel
theorem d_M_plan_17 : decode b_M_plan 17 = .ok (.ifCond .ne 5, 3) := by decide +kernel
theorem d_M_plan_20 : decode b_M_plan 20 = .ok (.iconst (-1), 1) := by decide +kernel
theorem d_M_plan_21 : decode b_M_plan 21 = .ok (.ireturn, 1) := by decide +kernel
theorem d_M_plan_22 : decode b_M_plan 22 = .ok (.aload_n 0, 1) := by decide +kernel
theorem d_M_plan_23 : decode b_M_plan 23 = .ok (.getfield 96, 3) := by decide +kernel
theorem d_M_plan_26 : decode b_M_plan 26 = .ok (.istore_n 1, 1) := by decide +kernel
theorem d_M_plan_27 : decode b_M_plan 27 = .ok (.aload_n 0, 1) := by decide +kernel
theorem d_M_plan_28 : decode b_M_plan 28 = .ok (.iconst 1, 1) := by decide +kernel
theorem d_M_plan_29 : decode b_M_plan 29 = .ok (.putfield 135, 3) := by decide +kernel
theorem d_M_plan_32 : decode b_M_plan 32 = .ok (.iconst 0, 1) := by decide +kernel
theorem d_M_plan_33 : decode b_M_plan 33 = .ok (.istore_n 2, 1) := by decide +kernel
theorem d_M_plan_34 : decode b_M_plan 34 = .ok (.iload_n 2, 1) := by decide +kernel
theorem d_M_plan_35 : decode b_M_plan 35 = .ok (.bipush 96, 2) := by decide +kernel
theorem d_M_plan_37 : decode b_M_plan 37 = .ok (.if_icmp .ge 41, 3) := by decide +kernel
theorem d_M_plan_40 : decode b_M_plan 40 = .ok (.aload_n 0, 1) := by decide +kernel
theorem d_M_plan_41 : decode b_M_plan 41 = .ok (.getfield 39, 3) := by decide +kernel
theorem d_M_plan_44 : decode b_M_plan 44 = .ok (.iload_n 2, 1) := by decide +kernel
theorem d_M_plan_45 : decode b_M_plan 45 = .ok (.aload_n 0, 1) := by decide +kernel
theorem d_M_plan_46 : decode b_M_plan 46 = .ok (.getfield 48, 3) := by decide +kernel
theorem d_M_plan_49 : decode b_M_plan 49 = .ok (.iload_n 2, 1) := by decide +kernel
theorem d_M_plan_50 : decode b_M_plan 50 = .ok (.iaload, 1) := by decide +kernel
theorem d_M_plan_51 : decode b_M_plan 51 = .ok (.iastore, 1) := by decide +kernel
theorem d_M_plan_52 : decode b_M_plan 52 = .ok (.iload_n 1, 1) := by decide +kernel
theorem d_M_plan_53 : decode b_M_plan 53 = .ok (.aload_n 0, 1) := by decide +kernel
theorem d_M_plan_54 : decode b_M_plan 54 = .ok (.getfield 39, 3) := by decide +kernel
theorem d_M_plan_57 : decode b_M_plan 57 = .ok (.iload_n 2, 1) := by decide +kernel
theorem d_M_plan_58 : decode b_M_plan 58 = .ok (.iaload, 1) := by decide +kernel
theorem d_M_plan_59 : decode b_M_plan 59 = .ok (.sipush 200, 3) := by decide +kernel
theorem d_M_plan_62 : decode b_M_plan 62 = .ok (.if_icmp .lt 7, 3) := by decide +kernel
theorem d_M_plan_65 : decode b_M_plan 65 = .ok (.iconst 1, 1) := by decide +kernel
theorem d_M_plan_66 : decode b_M_plan 66 = .ok (.goto 4, 3) := by decide +kernel
theorem d_M_plan_69 : decode b_M_plan 69 = .ok (.iconst 0, 1) := by decide +kernel
theorem d_M_plan_70 : decode b_M_plan 70 = .ok (.iadd, 1) := by decide +kernel
theorem d_M_plan_71 : decode b_M_plan 71 = .ok (.istore_n 1, 1) := by decide +kernel
theorem d_M_plan_72 : decode b_M_plan 72 = .ok (.iinc 2 1, 3) := by decide +kernel
theorem d_M_plan_75 : decode b_M_plan 75 = .ok (.goto (-41), 3) := by decide +kernel
theorem d_M_plan_78 : decode b_M_plan 78 = .ok (.iconst 0, 1) := by decide +kernel
theorem d_M_plan_79 : decode b_M_plan 79 = .ok (.istore_n 2, 1) := by decide +kernel
theorem d_M_plan_80 : decode b_M_plan 80 = .ok (.iload_n 2, 1) := by decide +kernel
theorem d_M_plan_81 : decode b_M_plan 81 = .ok (.bipush 12, 2) := by decide +kernel
theorem d_M_plan_83 : decode b_M_plan 83 = .ok (.if_icmp .ge 21, 3) := by decide +kernel
theorem d_M_plan_86 : decode b_M_plan 86 = .ok (.aload_n 0, 1) := by decide +kernel
theorem d_M_plan_87 : decode b_M_plan 87 = .ok (.getfield 36, 3) := by decide +kernel
theorem d_M_plan_90 : decode b_M_plan 90 = .ok (.iload_n 2, 1) := by decide +kernel
theorem d_M_plan_91 : decode b_M_plan 91 = .ok (.aload_n 0, 1) := by decide +kernel
theorem d_M_plan_92 : decode b_M_plan 92 = .ok (.getfield 45, 3) := by decide +kernel
theorem d_M_plan_95 : decode b_M_plan 95 = .ok (.iload_n 2, 1) := by decide +kernel
theorem d_M_plan_96 : decode b_M_plan 96 = .ok (.iaload, 1) := by decide +kernel
theorem d_M_plan_97 : decode b_M_plan 97 = .ok (.iastore, 1) := by decide +kernel
theorem d_M_plan_98 : decode b_M_plan 98 = .ok (.iinc 2 1, 3) := by decide +kernel
theorem d_M_plan_101 : decode b_M_plan 101 = .ok (.goto (-21), 3) := by decide +kernel
theorem d_M_plan_104 : decode b_M_plan 104 = .ok (.iconst 0, 1) := by decide +kernel
theorem d_M_plan_105 : decode b_M_plan 105 = .ok (.istore_n 2, 1) := by decide +kernel
theorem d_M_plan_106 : decode b_M_plan 106 = .ok (.iload_n 2, 1) := by decide +kernel
theorem d_M_plan_107 : decode b_M_plan 107 = .ok (.bipush 6, 2) := by decide +kernel
theorem d_M_plan_109 : decode b_M_plan 109 = .ok (.if_icmp .ge 60, 3) := by decide +kernel
theorem d_M_plan_112 : decode b_M_plan 112 = .ok (.aload_n 0, 1) := by decide +kernel
theorem d_M_plan_113 : decode b_M_plan 113 = .ok (.getfield 33, 3) := by decide +kernel
theorem d_M_plan_116 : decode b_M_plan 116 = .ok (.iload_n 2, 1) := by decide +kernel
theorem d_M_plan_117 : decode b_M_plan 117 = .ok (.aload_n 0, 1) := by decide +kernel
theorem d_M_plan_118 : decode b_M_plan 118 = .ok (.getfield 42, 3) := by decide +kernel
theorem d_M_plan_121 : decode b_M_plan 121 = .ok (.iload_n 2, 1) := by decide +kernel
theorem d_M_plan_122 : decode b_M_plan 122 = .ok (.iaload, 1) := by decide +kernel
theorem d_M_plan_123 : decode b_M_plan 123 = .ok (.iastore, 1) := by decide +kernel
theorem d_M_plan_124 : decode b_M_plan 124 = .ok (.aload_n 0, 1) := by decide +kernel
theorem d_M_plan_125 : decode b_M_plan 125 = .ok (.getfield 16, 3) := by decide +kernel
theorem d_M_plan_128 : decode b_M_plan 128 = .ok (.iload_n 2, 1) := by decide +kernel
theorem d_M_plan_129 : decode b_M_plan 129 = .ok (.iload_n 2, 1) := by decide +kernel
theorem d_M_plan_130 : decode b_M_plan 130 = .ok (.ifCond .ne 7, 3) := by decide +kernel
theorem d_M_plan_133 : decode b_M_plan 133 = .ok (.iconst 1, 1) := by decide +kernel
theorem d_M_plan_134 : decode b_M_plan 134 = .ok (.goto 4, 3) := by decide +kernel
theorem d_M_plan_137 : decode b_M_plan 137 = .ok (.iconst 0, 1) := by decide +kernel
theorem d_M_plan_138 : decode b_M_plan 138 = .ok (.bastore, 1) := by decide +kernel
theorem d_M_plan_139 : decode b_M_plan 139 = .ok (.aload_n 0, 1) := by decide +kernel
theorem d_M_plan_140 : decode b_M_plan 140 = .ok (.getfield 63, 3) := by decide +kernel
theorem d_M_plan_143 : decode b_M_plan 143 = .ok (.iload_n 2, 1) := by decide +kernel
theorem d_M_plan_144 : decode b_M_plan 144 = .ok (.iconst 0, 1) := by decide +kernel
theorem d_M_plan_145 : decode b_M_plan 145 = .ok (.iastore, 1) := by decide +kernel
theorem d_M_plan_146 : decode b_M_plan 146 = .ok (.aload_n 0, 1) := by decide +kernel
theorem d_M_plan_147 : decode b_M_plan 147 = .ok (.getfield 66, 3) := by decide +kernel
theorem d_M_plan_150 : decode b_M_plan 150 = .ok (.iload_n 2, 1) := by decide +kernel
theorem d_M_plan_151 : decode b_M_plan 151 = .ok (.iconst 0, 1) := by decide +kernel
theorem d_M_plan_152 : decode b_M_plan 152 = .ok (.iastore, 1) := by decide +kernel
theorem d_M_plan_153 : decode b_M_plan 153 = .ok (.aload_n 0, 1) := by decide +kernel
theorem d_M_plan_154 : decode b_M_plan 154 = .ok (.getfield 51, 3) := by decide +kernel
theorem d_M_plan_157 : decode b_M_plan 157 = .ok (.bipush 6, 2) := by decide +kernel
theorem d_M_plan_159 : decode b_M_plan 159 = .ok (.iload_n 2, 1) := by decide +kernel
theorem d_M_plan_160 : decode b_M_plan 160 = .ok (.iadd, 1) := by decide +kernel
theorem d_M_plan_161 : decode b_M_plan 161 = .ok (.iconst 0, 1) := by decide +kernel
theorem d_M_plan_162 : decode b_M_plan 162 = .ok (.iastore, 1) := by decide +kernel
theorem d_M_plan_163 : decode b_M_plan 163 = .ok (.iinc 2 1, 3) := by decide +kernel
theorem d_M_plan_166 : decode b_M_plan 166 = .ok (.goto (-60), 3) := by decide +kernel
theorem d_M_plan_169 : decode b_M_plan 169 = .ok (.iload_n 1, 1) := by decide +kernel
theorem d_M_plan_170 : decode b_M_plan 170 = .ok (.ireturn, 1) := by decide +kernel
theorem d_M_start_0 : decode b_M_start 0 = .ok (.aload_n 0, 1) := by decide +kernel
theorem d_M_start_1 : decode b_M_start 1 = .ok (.iload_n 1, 1) := by decide +kernel
theorem d_M_start_2 : decode b_M_start 2 = .ok (.invokevirtual 108, 3) := by decide +kernel
theorem d_M_start_5 : decode b_M_start 5 = .ok (.ifCond .ne 12, 3) := by decide +kernel
theorem d_M_start_8 : decode b_M_start 8 = .ok (.aload_n 0, 1) := by decide +kernel
theorem d_M_start_9 : decode b_M_start 9 = .ok (.getfield 13, 3) := by decide +kernel
theorem d_M_start_12 : decode b_M_start 12 = .ok (.iload_n 1, 1) := by decide +kernel
theorem d_M_start_13 : decode b_M_start 13 = .ok (.baload, 1) := by decide +kernel
theorem d_M_start_14 : decode b_M_start 14 = .ok (.ifCond .eq 5, 3) := by decide +kernel
theorem d_M_start_17 : decode b_M_start 17 = .ok (.iconst 0, 1) := by decide +kernel
theorem d_M_start_18 : decode b_M_start 18 = .ok (.ireturn, 1) := by decide +kernel
theorem d_M_start_19 : decode b_M_start 19 = .ok (.aload_n 0, 1) := by decide +kernel
theorem d_M_start_20 : decode b_M_start 20 = .ok (.getfield 13, 3) := by decide +kernel
theorem d_M_start_23 : decode b_M_start 23 = .ok (.iload_n 1, 1) := by decide +kernel
theorem d_M_start_24 : decode b_M_start 24 = .ok (.iconst 1, 1) := by decide +kernel
theorem d_M_start_25 : decode b_M_start 25 = .ok (.bastore, 1) := by decide +kernel
theorem d_M_start_26 : decode b_M_start 26 = .ok (.iconst 1, 1) := by decide +kernel
theorem d_M_start_27 : decode b_M_start 27 = .ok (.ireturn, 1) := by decide +kernel
theorem d_M_stop_0 : decode b_M_stop 0 = .ok (.aload_n 0, 1) := by decide +kernel
theorem d_M_stop_1 : decode b_M_stop 1 = .ok (.iload_n 1, 1) := by decide +kernel
theorem d_M_stop_2 : decode b_M_stop 2 = .ok (.invokevirtual 108, 3) := by decide +kernel
theorem d_M_stop_5 : decode b_M_stop 5 = .ok (.ifCond .ne 16, 3) := by decide +kernel
theorem d_M_stop_8 : decode b_M_stop 8 = .ok (.iload_n 1, 1) := by decide +kernel
theorem d_M_stop_9 : decode b_M_stop 9 = .ok (.ifCond .eq 12, 3) := by decide +kernel
theorem d_M_stop_12 : decode b_M_stop 12 = .ok (.aload_n 0, 1) := by decide +kernel
theorem d_M_stop_13 : decode b_M_stop 13 = .ok (.getfield 13, 3) := by decide +kernel
theorem d_M_stop_16 : decode b_M_stop 16 = .ok (.iload_n 1, 1) := by decide +kernel
theorem d_M_stop_17 : decode b_M_stop 17 = .ok (.baload, 1) := by decide +kernel
theorem d_M_stop_18 : decode b_M_stop 18 = .ok (.ifCond .ne 5, 3) := by decide +kernel
theorem d_M_stop_21 : decode b_M_stop 21 = .ok (.iconst 0, 1) := by decide +kernel
theorem d_M_stop_22 : decode b_M_stop 22 = .ok (.ireturn, 1) := by decide +kernel
theorem d_M_stop_23 : decode b_M_stop 23 = .ok (.aload_n 0, 1) := by decide +kernel
theorem d_M_stop_24 : decode b_M_stop 24 = .ok (.getfield 13, 3) := by decide +kernel
theorem d_M_stop_27 : decode b_M_stop 27 = .ok (.iload_n 1, 1) := by decide +kernel
theorem d_M_stop_28 : decode b_M_stop 28 = .ok (.iconst 0, 1) := by decide +kernel
theorem d_M_stop_29 : decode b_M_stop 29 = .ok (.bastore, 1) := by decide +kernel
theorem d_M_stop_30 : decode b_M_stop 30 = .ok (.aload_n 0, 1) := by decide +kernel
theorem d_M_stop_31 : decode b_M_stop 31 = .ok (.getfield 16, 3) := by decide +kernel
theorem d_M_stop_34 : decode b_M_stop 34 = .ok (.iload_n 1, 1) := by decide +kernel
theorem d_M_stop_35 : decode b_M_stop 35 = .ok (.iconst 0, 1) := by decide +kernel
theorem d_M_stop_36 : decode b_M_stop 36 = .ok (.bastore, 1) := by decide +kernel
theorem d_M_stop_37 : decode b_M_stop 37 = .ok (.aload_n 0, 1) := by decide +kernel
theorem d_M_stop_38 : decode b_M_stop 38 = .ok (.getfield 19, 3) := by decide +kernel
theorem d_M_stop_41 : decode b_M_stop 41 = .ok (.iload_n 1, 1) := by decide +kernel
theorem d_M_stop_42 : decode b_M_stop 42 = .ok (.iconst 0, 1) := by decide +kernel
theorem d_M_stop_43 : decode b_M_stop 43 = .ok (.iastore, 1) := by decide +kernel
theorem d_M_stop_44 : decode b_M_stop 44 = .ok (.aload_n 0, 1) := by decide +kernel
theorem d_M_stop_45 : decode b_M_stop 45 = .ok (.getfield 63, 3) := by decide +kernel
theorem d_M_stop_48 : decode b_M_stop 48 = .ok (.iload_n 1, 1) := by decide +kernel
theorem d_M_stop_49 : decode b_M_stop 49 = .ok (.iconst 0, 1) := by decide +kernel
theorem d_M_stop_50 : decode b_M_stop 50 = .ok (.iastore, 1) := by decide +kernel
theorem d_M_stop_51 : decode b_M_stop 51 = .ok (.aload_n 0, 1) := by decide +kernel
theorem d_M_stop_52 : decode b_M_stop 52 = .ok (.getfield 66, 3) := by decide +kernel
theorem d_M_stop_55 : decode b_M_stop 55 = .ok (.iload_n 1, 1) := by decide +kernel
theorem d_M_stop_56 : decode b_M_stop 56 = .ok (.iconst 0, 1) := by decide +kernel
theorem d_M_stop_57 : decode b_M_stop 57 = .ok (.iastore, 1) := by decide +kernel
theorem d_M_stop_58 : decode b_M_stop 58 = .ok (.aload_n 0, 1) := by decide +kernel
theorem d_M_stop_59 : decode b_M_stop 59 = .ok (.getfield 51, 3) := by decide +kernel
theorem d_M_stop_62 : decode b_M_stop 62 = .ok (.iload_n 1, 1) := by decide +kernel
theorem d_M_stop_63 : decode b_M_stop 63 = .ok (.iconst 0, 1) := by decide +kernel
theorem d_M_stop_64 : decode b_M_stop 64 = .ok (.iastore, 1) := by decide +kernel
theorem d_M_stop_65 : decode b_M_stop 65 = .ok (.aload_n 0, 1) := by decide +kernel
theorem d_M_stop_66 : decode b_M_stop 66 = .ok (.getfield 51, 3) := by decide +kernel
theorem d_M_stop_69 : decode b_M_stop 69 = .ok (.bipush 6, 2) := by decide +kernel
theorem d_M_stop_71 : decode b_M_stop 71 = .ok (.iload_n 1, 1) := by decide +kernel
theorem d_M_stop_72 : decode b_M_stop 72 = .ok (.iadd, 1) := by decide +kernel
theorem d_M_stop_73 : decode b_M_stop 73 = .ok (.iconst 0, 1) := by decide +kernel
theorem d_M_stop_74 : decode b_M_stop 74 = .ok (.iastore, 1) := by decide +kernel
theorem d_M_stop_75 : decode b_M_stop 75 = .ok (.iconst 0, 1) := by decide +kernel
theorem d_M_stop_76 : decode b_M_stop 76 = .ok (.istore_n 2, 1) := by decide +kernel
theorem d_M_stop_77 : decode b_M_stop 77 = .ok (.iload_n 2, 1) := by decide +kernel
theorem d_M_stop_78 : decode b_M_stop 78 = .ok (.bipush 6, 2) := by decide +kernel
theorem d_M_stop_80 : decode b_M_stop 80 = .ok (.if_icmp .ge 58, 3) := by decide +kernel
theorem d_M_stop_83 : decode b_M_stop 83 = .ok (.aload_n 0, 1) := by decide +kernel
theorem d_M_stop_84 : decode b_M_stop 84 = .ok (.getfield 69, 3) := by decide +kernel
theorem d_M_stop_87 : decode b_M_stop 87 = .ok (.bipush 6, 2) := by decide +kernel
theorem d_M_stop_89 : decode b_M_stop 89 = .ok (.iload_n 1, 1) := by decide +kernel
theorem d_M_stop_90 : decode b_M_stop 90 = .ok (.imul, 1) := by decide +kernel
theorem d_M_stop_91 : decode b_M_stop 91 = .ok (.iload_n 2, 1) := by decide +kernel
theorem d_M_stop_92 : decode b_M_stop 92 = .ok (.iadd, 1) := by decide +kernel
theorem d_M_stop_93 : decode b_M_stop 93 = .ok (.iconst 0, 1) := by decide +kernel
theorem d_M_stop_94 : decode b_M_stop 94 = .ok (.iastore, 1) := by decide +kernel
theorem d_M_stop_95 : decode b_M_stop 95 = .ok (.aload_n 0, 1) := by decide +kernel
theorem d_M_stop_96 : decode b_M_stop 96 = .ok (.getfield 69, 3) := by decide +kernel
theorem d_M_stop_99 : decode b_M_stop 99 = .ok (.bipush 36, 2) := by decide +kernel
theorem d_M_stop_101 : decode b_M_stop 101 = .ok (.bipush 6, 2) := by decide +kernel
theorem d_M_stop_103 : decode b_M_stop 103 = .ok (.iload_n 1, 1) := by decide +kernel
theorem d_M_stop_104 : decode b_M_stop 104 = .ok (.imul, 1) := by decide +kernel
theorem d_M_stop_105 : decode b_M_stop 105 = .ok (.iadd, 1) := by decide +kernel
theorem d_M_stop_106 : decode b_M_stop 106 = .ok (.iload_n 2, 1) := by decide +kernel
theorem d_M_stop_107 : decode b_M_stop 107 = .ok (.iadd, 1) := by decide +kernel
theorem d_M_stop_108 : decode b_M_stop 108 = .ok (.iload_n 2, 1) := by decide +kernel
theorem d_M_stop_109 : decode b_M_stop 109 = .ok (.iload_n 1, 1) := by decide +kernel
theorem d_M_stop_110 : decode b_M_stop 110 = .ok (.if_icmp .ne 20, 3) := by decide +kernel
theorem d_M_stop_113 : decode b_M_stop 113 = .ok (.aload_n 0, 1) := by decide +kernel
theorem d_M_stop_114 : decode b_M_stop 114 = .ok (.getfield 69, 3) := by decide +kernel
theorem d_M_stop_117 : decode b_M_stop 117 = .ok (.bipush 36, 2) := by decide +kernel
theorem d_M_stop_119 : decode b_M_stop 119 = .ok (.bipush 6, 2) := by decide +kernel
theorem d_M_stop_121 : decode b_M_stop 121 = .ok (.iload_n 1, 1) := by decide +kernel
theorem d_M_stop_122 : decode b_M_stop 122 = .ok (.imul, 1) := by decide +kernel
theorem d_M_stop_123 : decode b_M_stop 123 = .ok (.iadd, 1) := by decide +kernel
theorem d_M_stop_124 : decode b_M_stop 124 = .ok (.iload_n 2, 1) := by decide +kernel
theorem d_M_stop_125 : decode b_M_stop 125 = .ok (.iadd, 1) := by decide +kernel
theorem d_M_stop_126 : decode b_M_stop 126 = .ok (.iaload, 1) := by decide +kernel
theorem d_M_stop_127 : decode b_M_stop 127 = .ok (.goto 4, 3) := by decide +kernel
theorem d_M_stop_130 : decode b_M_stop 130 = .ok (.iconst 0, 1) := by decide +kernel
theorem d_M_stop_131 : decode b_M_stop 131 = .ok (.iastore, 1) := by decide +kernel
theorem d_M_stop_132 : decode b_M_stop 132 = .ok (.iinc 2 1, 3) := by decide +kernel
theorem d_M_stop_135 : decode b_M_stop 135 = .ok (.goto (-58), 3) := by decide +kernel
theorem d_M_stop_138 : decode b_M_stop 138 = .ok (.iconst 1, 1) := by decide +kernel
theorem d_M_stop_139 : decode b_M_stop 139 = .ok (.ireturn, 1) := by decide +kernel
theorem d_M_drift_0 : decode b_M_drift 0 = .ok (.aload_n 0, 1) := by decide +kernel
theorem d_M_drift_1 : decode b_M_drift 1 = .ok (.iload_n 1, 1) := by decide +kernel
theorem d_M_drift_2 : decode b_M_drift 2 = .ok (.invokevirtual 108, 3) := by decide +kernel
theorem d_M_drift_5 : decode b_M_drift 5 = .ok (.ifCond .ne 18, 3) := by decide +kernel
theorem d_M_drift_8 : decode b_M_drift 8 = .ok (.iload_n 1, 1) := by decide +kernel
theorem d_M_drift_9 : decode b_M_drift 9 = .ok (.ifCond .eq 14, 3) := by decide +kernel
theorem d_M_drift_12 : decode b_M_drift 12 = .ok (.iload_n 2, 1) := by decide +kernel
theorem d_M_drift_13 : decode b_M_drift 13 = .ok (.bipush (-3), 2) := by decide +kernel
theorem d_M_drift_15 : decode b_M_drift 15 = .ok (.if_icmp .lt 8, 3) := by decide +kernel
theorem d_M_drift_18 : decode b_M_drift 18 = .ok (.iload_n 2, 1) := by decide +kernel
theorem d_M_drift_19 : decode b_M_drift 19 = .ok (.iconst 3, 1) := by decide +kernel
theorem d_M_drift_20 : decode b_M_drift 20 = .ok (.if_icmp .le 5, 3) := by decide +kernel
theorem d_M_drift_23 : decode b_M_drift 23 = .ok (.iconst 0, 1) := by decide +kernel
theorem d_M_drift_24 : decode b_M_drift 24 = .ok (.ireturn, 1) := by decide +kernel
theorem d_M_drift_25 : decode b_M_drift 25 = .ok (.aload_n 0, 1) := by decide +kernel
theorem d_M_drift_26 : decode b_M_drift 26 = .ok (.getfield 23, 3) := by decide +kernel
theorem d_M_drift_29 : decode b_M_drift 29 = .ok (.iload_n 1, 1) := by decide +kernel
theorem d_M_drift_30 : decode b_M_drift 30 = .ok (.iload_n 2, 1) := by decide +kernel
theorem d_M_drift_31 : decode b_M_drift 31 = .ok (.iastore, 1) := by decide +kernel
theorem d_M_drift_32 : decode b_M_drift 32 = .ok (.iconst 1, 1) := by decide +kernel
theorem d_M_drift_33 : decode b_M_drift 33 = .ok (.ireturn, 1) := by decide +kernel
theorem d_M_radio_0 : decode b_M_radio 0 = .ok (.iload_n 1, 1) := by decide +kernel
theorem d_M_radio_1 : decode b_M_radio 1 = .ok (.ifCond .lt 11, 3) := by decide +kernel
theorem d_M_radio_4 : decode b_M_radio 4 = .ok (.iload_n 1, 1) := by decide +kernel
theorem d_M_radio_5 : decode b_M_radio 5 = .ok (.aload_n 0, 1) := by decide +kernel
theorem d_M_radio_6 : decode b_M_radio 6 = .ok (.getfield 103, 3) := by decide +kernel
theorem d_M_radio_9 : decode b_M_radio 9 = .ok (.if_icmp .lt 5, 3) := by decide +kernel
theorem d_M_radio_12 : decode b_M_radio 12 = .ok (.iconst 0, 1) := by decide +kernel
theorem d_M_radio_13 : decode b_M_radio 13 = .ok (.ireturn, 1) := by decide +kernel
theorem d_M_radio_14 : decode b_M_radio 14 = .ok (.aload_n 0, 1) := by decide +kernel
theorem d_M_radio_15 : decode b_M_radio 15 = .ok (.getfield 26, 3) := by decide +kernel
theorem d_M_radio_18 : decode b_M_radio 18 = .ok (.iload_n 1, 1) := by decide +kernel
theorem d_M_radio_19 : decode b_M_radio 19 = .ok (.lload_n 2, 1) := by decide +kernel
theorem d_M_radio_20 : decode b_M_radio 20 = .ok (.lastore, 1) := by decide +kernel
theorem d_M_radio_21 : decode b_M_radio 21 = .ok (.aload_n 0, 1) := by decide +kernel
theorem d_M_radio_22 : decode b_M_radio 22 = .ok (.getfield 30, 3) := by decide +kernel
theorem d_M_radio_25 : decode b_M_radio 25 = .ok (.iload_n 1, 1) := by decide +kernel
theorem d_M_radio_26 : decode b_M_radio 26 = .ok (.lload 4, 2) := by decide +kernel
theorem d_M_radio_28 : decode b_M_radio 28 = .ok (.lastore, 1) := by decide +kernel
theorem d_M_radio_29 : decode b_M_radio 29 = .ok (.iconst 1, 1) := by decide +kernel
theorem d_M_radio_30 : decode b_M_radio 30 = .ok (.ireturn, 1) := by decide +kernel
theorem d_M_add_0 : decode b_M_add 0 = .ok (.iconst 4, 1) := by decide +kernel
theorem d_M_add_1 : decode b_M_add 1 = .ok (.iload_n 1, 1) := by decide +kernel
theorem d_M_add_2 : decode b_M_add 2 = .ok (.imul, 1) := by decide +kernel
theorem d_M_add_3 : decode b_M_add 3 = .ok (.aload_n 0, 1) := by decide +kernel
theorem d_M_add_4 : decode b_M_add 4 = .ok (.getfield 51, 3) := by decide +kernel
theorem d_M_add_7 : decode b_M_add 7 = .ok (.iload_n 1, 1) := by decide +kernel
theorem d_M_add_8 : decode b_M_add 8 = .ok (.iaload, 1) := by decide +kernel
theorem d_M_add_9 : decode b_M_add 9 = .ok (.iadd, 1) := by decide +kernel
theorem d_M_add_10 : decode b_M_add 10 = .ok (.istore 5, 2) := by decide +kernel
theorem d_M_add_12 : decode b_M_add 12 = .ok (.aload_n 0, 1) := by decide +kernel
theorem d_M_add_13 : decode b_M_add 13 = .ok (.getfield 54, 3) := by decide +kernel
theorem d_M_add_16 : decode b_M_add 16 = .ok (.iload 5, 2) := by decide +kernel
theorem d_M_add_18 : decode b_M_add 18 = .ok (.iload_n 2, 1) := by decide +kernel
theorem d_M_add_19 : decode b_M_add 19 = .ok (.iastore, 1) := by decide +kernel
theorem d_M_add_20 : decode b_M_add 20 = .ok (.aload_n 0, 1) := by decide +kernel
theorem d_M_add_21 : decode b_M_add 21 = .ok (.getfield 57, 3) := by decide +kernel
theorem d_M_add_24 : decode b_M_add 24 = .ok (.iload 5, 2) := by decide +kernel
theorem d_M_add_26 : decode b_M_add 26 = .ok (.iload_n 3, 1) := by decide +kernel
theorem d_M_add_27 : decode b_M_add 27 = .ok (.iastore, 1) := by decide +kernel
theorem d_M_add_28 : decode b_M_add 28 = .ok (.aload_n 0, 1) := by decide +kernel
theorem d_M_add_29 : decode b_M_add 29 = .ok (.getfield 60, 3) := by decide +kernel
theorem d_M_add_32 : decode b_M_add 32 = .ok (.iload 5, 2) := by decide +kernel
theorem d_M_add_34 : decode b_M_add 34 = .ok (.iload 4, 2) := by decide +kernel
theorem d_M_add_36 : decode b_M_add 36 = .ok (.iastore, 1) := by decide +kernel
theorem d_M_add_37 : decode b_M_add 37 = .ok (.aload_n 0, 1) := by decide +kernel
theorem d_M_add_38 : decode b_M_add 38 = .ok (.getfield 51, 3) := by decide +kernel
theorem d_M_add_41 : decode b_M_add 41 = .ok (.iload_n 1, 1) := by decide +kernel
theorem d_M_add_42 : decode b_M_add 42 = .ok (.dup2, 1) := by decide +kernel
theorem d_M_add_43 : decode b_M_add 43 = .ok (.iaload, 1) := by decide +kernel
theorem d_M_add_44 : decode b_M_add 44 = .ok (.iconst 1, 1) := by decide +kernel
theorem d_M_add_45 : decode b_M_add 45 = .ok (.iadd, 1) := by decide +kernel
theorem d_M_add_46 : decode b_M_add 46 = .ok (.iastore, 1) := by decide +kernel
theorem d_M_add_47 : decode b_M_add 47 = .ok (.return_, 1) := by decide +kernel
theorem d_M_leave_0 : decode b_M_leave 0 = .ok (.aload_n 0, 1) := by decide +kernel
theorem d_M_leave_1 : decode b_M_leave 1 = .ok (.getfield 51, 3) := by decide +kernel
theorem d_M_leave_4 : decode b_M_leave 4 = .ok (.iload_n 1, 1) := by decide +kernel
theorem d_M_leave_5 : decode b_M_leave 5 = .ok (.dup2, 1) := by decide +kernel
theorem d_M_leave_6 : decode b_M_leave 6 = .ok (.iaload, 1) := by decide +kernel
theorem d_M_leave_7 : decode b_M_leave 7 = .ok (.iconst 1, 1) := by decide +kernel
theorem d_M_leave_8 : decode b_M_leave 8 = .ok (.isub, 1) := by decide +kernel
theorem d_M_leave_9 : decode b_M_leave 9 = .ok (.iastore, 1) := by decide +kernel
theorem d_M_leave_10 : decode b_M_leave 10 = .ok (.iconst 4, 1) := by decide +kernel
theorem d_M_leave_11 : decode b_M_leave 11 = .ok (.iload_n 1, 1) := by decide +kernel
theorem d_M_leave_12 : decode b_M_leave 12 = .ok (.imul, 1) := by decide +kernel
theorem d_M_leave_13 : decode b_M_leave 13 = .ok (.istore_n 2, 1) := by decide +kernel
theorem d_M_leave_14 : decode b_M_leave 14 = .ok (.iload_n 2, 1) := by decide +kernel
theorem d_M_leave_15 : decode b_M_leave 15 = .ok (.iconst 4, 1) := by decide +kernel
theorem d_M_leave_16 : decode b_M_leave 16 = .ok (.iload_n 1, 1) := by decide +kernel
theorem d_M_leave_17 : decode b_M_leave 17 = .ok (.imul, 1) := by decide +kernel
theorem d_M_leave_18 : decode b_M_leave 18 = .ok (.aload_n 0, 1) := by decide +kernel
theorem d_M_leave_19 : decode b_M_leave 19 = .ok (.getfield 51, 3) := by decide +kernel
theorem d_M_leave_22 : decode b_M_leave 22 = .ok (.iload_n 1, 1) := by decide +kernel
theorem d_M_leave_23 : decode b_M_leave 23 = .ok (.iaload, 1) := by decide +kernel
theorem d_M_leave_24 : decode b_M_leave 24 = .ok (.iadd, 1) := by decide +kernel
theorem d_M_leave_25 : decode b_M_leave 25 = .ok (.if_icmp .ge 51, 3) := by decide +kernel
theorem d_M_leave_28 : decode b_M_leave 28 = .ok (.aload_n 0, 1) := by decide +kernel
theorem d_M_leave_29 : decode b_M_leave 29 = .ok (.getfield 54, 3) := by decide +kernel
theorem d_M_leave_32 : decode b_M_leave 32 = .ok (.iload_n 2, 1) := by decide +kernel
theorem d_M_leave_33 : decode b_M_leave 33 = .ok (.aload_n 0, 1) := by decide +kernel
theorem d_M_leave_34 : decode b_M_leave 34 = .ok (.getfield 54, 3) := by decide +kernel
theorem d_M_leave_37 : decode b_M_leave 37 = .ok (.iload_n 2, 1) := by decide +kernel
theorem d_M_leave_38 : decode b_M_leave 38 = .ok (.iconst 1, 1) := by decide +kernel
theorem d_M_leave_39 : decode b_M_leave 39 = .ok (.iadd, 1) := by decide +kernel
theorem d_M_leave_40 : decode b_M_leave 40 = .ok (.iaload, 1) := by decide +kernel
theorem d_M_leave_41 : decode b_M_leave 41 = .ok (.iastore, 1) := by decide +kernel
theorem d_M_leave_42 : decode b_M_leave 42 = .ok (.aload_n 0, 1) := by decide +kernel
theorem d_M_leave_43 : decode b_M_leave 43 = .ok (.getfield 57, 3) := by decide +kernel
theorem d_M_leave_46 : decode b_M_leave 46 = .ok (.iload_n 2, 1) := by decide +kernel
theorem d_M_leave_47 : decode b_M_leave 47 = .ok (.aload_n 0, 1) := by decide +kernel
theorem d_M_leave_48 : decode b_M_leave 48 = .ok (.getfield 57, 3) := by decide +kernel
theorem d_M_leave_51 : decode b_M_leave 51 = .ok (.iload_n 2, 1) := by decide +kernel
theorem d_M_leave_52 : decode b_M_leave 52 = .ok (.iconst 1, 1) := by decide +kernel
theorem d_M_leave_53 : decode b_M_leave 53 = .ok (.iadd, 1) := by decide +kernel
theorem d_M_leave_54 : decode b_M_leave 54 = .ok (.iaload, 1) := by decide +kernel
theorem d_M_leave_55 : decode b_M_leave 55 = .ok (.iastore, 1) := by decide +kernel
theorem d_M_leave_56 : decode b_M_leave 56 = .ok (.aload_n 0, 1) := by decide +kernel
theorem d_M_leave_57 : decode b_M_leave 57 = .ok (.getfield 60, 3) := by decide +kernel
theorem d_M_leave_60 : decode b_M_leave 60 = .ok (.iload_n 2, 1) := by decide +kernel
theorem d_M_leave_61 : decode b_M_leave 61 = .ok (.aload_n 0, 1) := by decide +kernel
theorem d_M_leave_62 : decode b_M_leave 62 = .ok (.getfield 60, 3) := by decide +kernel
theorem d_M_leave_65 : decode b_M_leave 65 = .ok (.iload_n 2, 1) := by decide +kernel
theorem d_M_leave_66 : decode b_M_leave 66 = .ok (.iconst 1, 1) := by decide +kernel
theorem d_M_leave_67 : decode b_M_leave 67 = .ok (.iadd, 1) := by decide +kernel
theorem d_M_leave_68 : decode b_M_leave 68 = .ok (.iaload, 1) := by decide +kernel
theorem d_M_leave_69 : decode b_M_leave 69 = .ok (.iastore, 1) := by decide +kernel
theorem d_M_leave_70 : decode b_M_leave 70 = .ok (.iinc 2 1, 3) := by decide +kernel
theorem d_M_leave_73 : decode b_M_leave 73 = .ok (.goto (-59), 3) := by decide +kernel
theorem d_M_leave_76 : decode b_M_leave 76 = .ok (.return_, 1) := by decide +kernel
theorem d_M_sample_0 : decode b_M_sample 0 = .ok (.aload_n 0, 1) := by decide +kernel
theorem d_M_sample_1 : decode b_M_sample 1 = .ok (.iload_n 1, 1) := by decide +kernel
theorem d_M_sample_2 : decode b_M_sample 2 = .ok (.invokevirtual 108, 3) := by decide +kernel
theorem d_M_sample_5 : decode b_M_sample 5 = .ok (.ifCond .ne 40, 3) := by decide +kernel
theorem d_M_sample_8 : decode b_M_sample 8 = .ok (.iload_n 1, 1) := by decide +kernel
theorem d_M_sample_9 : decode b_M_sample 9 = .ok (.ifCond .eq 36, 3) := by decide +kernel
theorem d_M_sample_12 : decode b_M_sample 12 = .ok (.aload_n 0, 1) := by decide +kernel
theorem d_M_sample_13 : decode b_M_sample 13 = .ok (.getfield 13, 3) := by decide +kernel
theorem d_M_sample_16 : decode b_M_sample 16 = .ok (.iload_n 1, 1) := by decide +kernel
theorem d_M_sample_17 : decode b_M_sample 17 = .ok (.baload, 1) := by decide +kernel
theorem d_M_sample_18 : decode b_M_sample 18 = .ok (.ifCond .eq 27, 3) := by decide +kernel
theorem d_M_sample_21 : decode b_M_sample 21 = .ok (.iload_n 2, 1) := by decide +kernel
theorem d_M_sample_22 : decode b_M_sample 22 = .ok (.sipush (-1000), 3) := by decide +kernel
theorem d_M_sample_25 : decode b_M_sample 25 = .ok (.if_icmp .lt 20, 3) := by decide +kernel
theorem d_M_sample_28 : decode b_M_sample 28 = .ok (.iload_n 2, 1) := by decide +kernel
theorem d_M_sample_29 : decode b_M_sample 29 = .ok (.sipush 1000, 3) := by decide +kernel
theorem d_M_sample_32 : decode b_M_sample 32 = .ok (.if_icmp .gt 13, 3) := by decide +kernel
theorem d_M_sample_35 : decode b_M_sample 35 = .ok (.aload_n 0, 1) := by decide +kernel
theorem d_M_sample_36 : decode b_M_sample 36 = .ok (.getfield 51, 3) := by decide +kernel
theorem d_M_sample_39 : decode b_M_sample 39 = .ok (.iload_n 1, 1) := by decide +kernel
theorem d_M_sample_40 : decode b_M_sample 40 = .ok (.iaload, 1) := by decide +kernel
theorem d_M_sample_41 : decode b_M_sample 41 = .ok (.iconst 4, 1) := by decide +kernel
theorem d_M_sample_42 : decode b_M_sample 42 = .ok (.if_icmp .ne 5, 3) := by decide +kernel
theorem d_M_sample_45 : decode b_M_sample 45 = .ok (.iconst (-1), 1) := by decide +kernel
theorem d_M_sample_46 : decode b_M_sample 46 = .ok (.ireturn, 1) := by decide +kernel
theorem d_M_sample_47 : decode b_M_sample 47 = .ok (.aload_n 0, 1) := by decide +kernel
theorem d_M_sample_48 : decode b_M_sample 48 = .ok (.getfield 72, 3) := by decide +kernel
theorem d_M_sample_51 : decode b_M_sample 51 = .ok (.iload_n 1, 1) := by decide +kernel
theorem d_M_sample_52 : decode b_M_sample 52 = .ok (.dup2, 1) := by decide +kernel
theorem d_M_sample_53 : decode b_M_sample 53 = .ok (.iaload, 1) := by decide +kernel
theorem d_M_sample_54 : decode b_M_sample 54 = .ok (.iconst 1, 1) := by decide +kernel
theorem d_M_sample_55 : decode b_M_sample 55 = .ok (.iadd, 1) := by decide +kernel
theorem d_M_sample_56 : decode b_M_sample 56 = .ok (.iastore, 1) := by decide +kernel
theorem d_M_sample_57 : decode b_M_sample 57 = .ok (.aload_n 0, 1) := by decide +kernel
theorem d_M_sample_58 : decode b_M_sample 58 = .ok (.iload_n 1, 1) := by decide +kernel
theorem d_M_sample_59 : decode b_M_sample 59 = .ok (.iload_n 1, 1) := by decide +kernel
theorem d_M_sample_60 : decode b_M_sample 60 = .ok (.aload_n 0, 1) := by decide +kernel
theorem d_M_sample_61 : decode b_M_sample 61 = .ok (.getfield 72, 3) := by decide +kernel
theorem d_M_sample_64 : decode b_M_sample 64 = .ok (.iload_n 1, 1) := by decide +kernel
theorem d_M_sample_65 : decode b_M_sample 65 = .ok (.iaload, 1) := by decide +kernel
theorem d_M_sample_66 : decode b_M_sample 66 = .ok (.iload_n 2, 1) := by decide +kernel
theorem d_M_sample_67 : decode b_M_sample 67 = .ok (.invokevirtual 139, 3) := by decide +kernel
theorem d_M_sample_70 : decode b_M_sample 70 = .ok (.aload_n 0, 1) := by decide +kernel
theorem d_M_sample_71 : decode b_M_sample 71 = .ok (.getfield 72, 3) := by decide +kernel
theorem d_M_sample_74 : decode b_M_sample 74 = .ok (.iload_n 1, 1) := by decide +kernel
theorem d_M_sample_75 : decode b_M_sample 75 = .ok (.iaload, 1) := by decide +kernel
theorem d_M_sample_76 : decode b_M_sample 76 = .ok (.ireturn, 1) := by decide +kernel
theorem d_M_control_0 : decode b_M_control 0 = .ok (.aload_n 0, 1) := by decide +kernel
theorem d_M_control_1 : decode b_M_control 1 = .ok (.iload_n 1, 1) := by decide +kernel
theorem d_M_control_2 : decode b_M_control 2 = .ok (.invokevirtual 108, 3) := by decide +kernel
theorem d_M_control_5 : decode b_M_control 5 = .ok (.ifCond .ne 43, 3) := by decide +kernel
theorem d_M_control_8 : decode b_M_control 8 = .ok (.iload_n 1, 1) := by decide +kernel
theorem d_M_control_9 : decode b_M_control 9 = .ok (.ifCond .eq 39, 3) := by decide +kernel
theorem d_M_control_12 : decode b_M_control 12 = .ok (.iload_n 2, 1) := by decide +kernel
theorem d_M_control_13 : decode b_M_control 13 = .ok (.sipush (-1000), 3) := by decide +kernel
theorem d_M_control_16 : decode b_M_control 16 = .ok (.if_icmp .lt 32, 3) := by decide +kernel
theorem d_M_control_19 : decode b_M_control 19 = .ok (.iload_n 2, 1) := by decide +kernel
theorem d_M_control_20 : decode b_M_control 20 = .ok (.sipush 1000, 3) := by decide +kernel
theorem d_M_control_23 : decode b_M_control 23 = .ok (.if_icmp .gt 25, 3) := by decide +kernel
theorem d_M_control_26 : decode b_M_control 26 = .ok (.iload_n 3, 1) := by decide +kernel
theorem d_M_control_27 : decode b_M_control 27 = .ok (.ifCond .lt 21, 3) := by decide +kernel
theorem d_M_control_30 : decode b_M_control 30 = .ok (.iload_n 3, 1) := by decide +kernel
theorem d_M_control_31 : decode b_M_control 31 = .ok (.bipush 16, 2) := by decide +kernel
theorem d_M_control_33 : decode b_M_control 33 = .ok (.if_icmp .gt 15, 3) := by decide +kernel
theorem d_M_control_36 : decode b_M_control 36 = .ok (.iload 4, 2) := by decide +kernel
theorem d_M_control_38 : decode b_M_control 38 = .ok (.ifCond .lt 10, 3) := by decide +kernel
theorem d_M_control_41 : decode b_M_control 41 = .ok (.iload 4, 2) := by decide +kernel
theorem d_M_control_43 : decode b_M_control 43 = .ok (.bipush 16, 2) := by decide +kernel
theorem d_M_control_45 : decode b_M_control 45 = .ok (.if_icmp .le 5, 3) := by decide +kernel
theorem d_M_control_48 : decode b_M_control 48 = .ok (.iconst 0, 1) := by decide +kernel
theorem d_M_control_49 : decode b_M_control 49 = .ok (.ireturn, 1) := by decide +kernel
theorem d_M_control_50 : decode b_M_control 50 = .ok (.aload_n 0, 1) := by decide +kernel
theorem d_M_control_51 : decode b_M_control 51 = .ok (.getfield 81, 3) := by decide +kernel
theorem d_M_control_54 : decode b_M_control 54 = .ok (.iload_n 1, 1) := by decide +kernel
theorem d_M_control_55 : decode b_M_control 55 = .ok (.iload_n 2, 1) := by decide +kernel
theorem d_M_control_56 : decode b_M_control 56 = .ok (.iastore, 1) := by decide +kernel
theorem d_M_control_57 : decode b_M_control 57 = .ok (.aload_n 0, 1) := by decide +kernel
theorem d_M_control_58 : decode b_M_control 58 = .ok (.getfield 84, 3) := by decide +kernel
theorem d_M_control_61 : decode b_M_control 61 = .ok (.iload_n 1, 1) := by decide +kernel
theorem d_M_control_62 : decode b_M_control 62 = .ok (.iload_n 3, 1) := by decide +kernel
theorem d_M_control_63 : decode b_M_control 63 = .ok (.iastore, 1) := by decide +kernel
theorem d_M_control_64 : decode b_M_control 64 = .ok (.aload_n 0, 1) := by decide +kernel
theorem d_M_control_65 : decode b_M_control 65 = .ok (.getfield 87, 3) := by decide +kernel
theorem d_M_control_68 : decode b_M_control 68 = .ok (.iload_n 1, 1) := by decide +kernel
theorem d_M_control_69 : decode b_M_control 69 = .ok (.iload 4, 2) := by decide +kernel
theorem d_M_control_71 : decode b_M_control 71 = .ok (.iastore, 1) := by decide +kernel
theorem d_M_control_72 : decode b_M_control 72 = .ok (.iconst 1, 1) := by decide +kernel
theorem d_M_control_73 : decode b_M_control 73 = .ok (.ireturn, 1) := by decide +kernel
theorem d_M_within_0 : decode b_M_within 0 = .ok (.iload_n 0, 1) := by decide +kernel
theorem d_M_within_1 : decode b_M_within 1 = .ok (.iload_n 1, 1) := by decide +kernel
theorem d_M_within_2 : decode b_M_within 2 = .ok (.ineg, 1) := by decide +kernel
theorem d_M_within_3 : decode b_M_within 3 = .ok (.if_icmp .ge 8, 3) := by decide +kernel
theorem d_M_within_6 : decode b_M_within 6 = .ok (.iload_n 1, 1) := by decide +kernel
theorem d_M_within_7 : decode b_M_within 7 = .ok (.ineg, 1) := by decide +kernel
theorem d_M_within_8 : decode b_M_within 8 = .ok (.goto 13, 3) := by decide +kernel
theorem d_M_within_11 : decode b_M_within 11 = .ok (.iload_n 0, 1) := by decide +kernel
theorem d_M_within_12 : decode b_M_within 12 = .ok (.iload_n 1, 1) := by decide +kernel
theorem d_M_within_13 : decode b_M_within 13 = .ok (.if_icmp .le 7, 3) := by decide +kernel
theorem d_M_within_16 : decode b_M_within 16 = .ok (.iload_n 1, 1) := by decide +kernel
theorem d_M_within_17 : decode b_M_within 17 = .ok (.goto 4, 3) := by decide +kernel
theorem d_M_within_20 : decode b_M_within 20 = .ok (.iload_n 0, 1) := by decide +kernel
theorem d_M_within_21 : decode b_M_within 21 = .ok (.ireturn, 1) := by decide +kernel
theorem d_M_cache_0 : decode b_M_cache 0 = .ok (.aload_n 0, 1) := by decide +kernel
theorem d_M_cache_1 : decode b_M_cache 1 = .ok (.getfield 75, 3) := by decide +kernel
theorem d_M_cache_4 : decode b_M_cache 4 = .ok (.iconst 3, 1) := by decide +kernel
theorem d_M_cache_5 : decode b_M_cache 5 = .ok (.iload_n 1, 1) := by decide +kernel
theorem d_M_cache_6 : decode b_M_cache 6 = .ok (.imul, 1) := by decide +kernel
theorem d_M_cache_7 : decode b_M_cache 7 = .ok (.iconst 2, 1) := by decide +kernel
theorem d_M_cache_8 : decode b_M_cache 8 = .ok (.iadd, 1) := by decide +kernel
theorem d_M_cache_9 : decode b_M_cache 9 = .ok (.aload_n 0, 1) := by decide +kernel
theorem d_M_cache_10 : decode b_M_cache 10 = .ok (.getfield 75, 3) := by decide +kernel
theorem d_M_cache_13 : decode b_M_cache 13 = .ok (.iconst 3, 1) := by decide +kernel
theorem d_M_cache_14 : decode b_M_cache 14 = .ok (.iload_n 1, 1) := by decide +kernel
theorem d_M_cache_15 : decode b_M_cache 15 = .ok (.imul, 1) := by decide +kernel
theorem d_M_cache_16 : decode b_M_cache 16 = .ok (.iconst 1, 1) := by decide +kernel
theorem d_M_cache_17 : decode b_M_cache 17 = .ok (.iadd, 1) := by decide +kernel
theorem d_M_cache_18 : decode b_M_cache 18 = .ok (.iaload, 1) := by decide +kernel
theorem d_M_cache_19 : decode b_M_cache 19 = .ok (.iastore, 1) := by decide +kernel
theorem d_M_cache_20 : decode b_M_cache 20 = .ok (.aload_n 0, 1) := by decide +kernel
theorem d_M_cache_21 : decode b_M_cache 21 = .ok (.getfield 75, 3) := by decide +kernel
theorem d_M_cache_24 : decode b_M_cache 24 = .ok (.iconst 3, 1) := by decide +kernel
theorem d_M_cache_25 : decode b_M_cache 25 = .ok (.iload_n 1, 1) := by decide +kernel
theorem d_M_cache_26 : decode b_M_cache 26 = .ok (.imul, 1) := by decide +kernel
theorem d_M_cache_27 : decode b_M_cache 27 = .ok (.iconst 1, 1) := by decide +kernel
theorem d_M_cache_28 : decode b_M_cache 28 = .ok (.iadd, 1) := by decide +kernel
theorem d_M_cache_29 : decode b_M_cache 29 = .ok (.aload_n 0, 1) := by decide +kernel
theorem d_M_cache_30 : decode b_M_cache 30 = .ok (.getfield 75, 3) := by decide +kernel
theorem d_M_cache_33 : decode b_M_cache 33 = .ok (.iconst 3, 1) := by decide +kernel
theorem d_M_cache_34 : decode b_M_cache 34 = .ok (.iload_n 1, 1) := by decide +kernel
theorem d_M_cache_35 : decode b_M_cache 35 = .ok (.imul, 1) := by decide +kernel
theorem d_M_cache_36 : decode b_M_cache 36 = .ok (.iaload, 1) := by decide +kernel
theorem d_M_cache_37 : decode b_M_cache 37 = .ok (.iastore, 1) := by decide +kernel
theorem d_M_cache_38 : decode b_M_cache 38 = .ok (.aload_n 0, 1) := by decide +kernel
theorem d_M_cache_39 : decode b_M_cache 39 = .ok (.getfield 75, 3) := by decide +kernel
theorem d_M_cache_42 : decode b_M_cache 42 = .ok (.iconst 3, 1) := by decide +kernel
theorem d_M_cache_43 : decode b_M_cache 43 = .ok (.iload_n 1, 1) := by decide +kernel
theorem d_M_cache_44 : decode b_M_cache 44 = .ok (.imul, 1) := by decide +kernel
theorem d_M_cache_45 : decode b_M_cache 45 = .ok (.iload_n 3, 1) := by decide +kernel
theorem d_M_cache_46 : decode b_M_cache 46 = .ok (.iastore, 1) := by decide +kernel
theorem d_M_cache_47 : decode b_M_cache 47 = .ok (.aload_n 0, 1) := by decide +kernel
theorem d_M_cache_48 : decode b_M_cache 48 = .ok (.getfield 78, 3) := by decide +kernel
theorem d_M_cache_51 : decode b_M_cache 51 = .ok (.iload_n 1, 1) := by decide +kernel
theorem d_M_cache_52 : decode b_M_cache 52 = .ok (.aload_n 0, 1) := by decide +kernel
theorem d_M_cache_53 : decode b_M_cache 53 = .ok (.getfield 78, 3) := by decide +kernel
theorem d_M_cache_56 : decode b_M_cache 56 = .ok (.iload_n 1, 1) := by decide +kernel
theorem d_M_cache_57 : decode b_M_cache 57 = .ok (.iaload, 1) := by decide +kernel
theorem d_M_cache_58 : decode b_M_cache 58 = .ok (.iconst 3, 1) := by decide +kernel
theorem d_M_cache_59 : decode b_M_cache 59 = .ok (.if_icmp .ge 14, 3) := by decide +kernel
theorem d_M_cache_62 : decode b_M_cache 62 = .ok (.aload_n 0, 1) := by decide +kernel
theorem d_M_cache_63 : decode b_M_cache 63 = .ok (.getfield 78, 3) := by decide +kernel
theorem d_M_cache_66 : decode b_M_cache 66 = .ok (.iload_n 1, 1) := by decide +kernel
theorem d_M_cache_67 : decode b_M_cache 67 = .ok (.iaload, 1) := by decide +kernel
theorem d_M_cache_68 : decode b_M_cache 68 = .ok (.iconst 1, 1) := by decide +kernel
theorem d_M_cache_69 : decode b_M_cache 69 = .ok (.iadd, 1) := by decide +kernel
theorem d_M_cache_70 : decode b_M_cache 70 = .ok (.goto 4, 3) := by decide +kernel
theorem d_M_cache_73 : decode b_M_cache 73 = .ok (.iconst 3, 1) := by decide +kernel
theorem d_M_cache_74 : decode b_M_cache 74 = .ok (.iastore, 1) := by decide +kernel
theorem d_M_cache_75 : decode b_M_cache 75 = .ok (.aload_n 0, 1) := by decide +kernel
theorem d_M_cache_76 : decode b_M_cache 76 = .ok (.getfield 81, 3) := by decide +kernel
theorem d_M_cache_79 : decode b_M_cache 79 = .ok (.iload_n 1, 1) := by decide +kernel
theorem d_M_cache_80 : decode b_M_cache 80 = .ok (.iaload, 1) := by decide +kernel
theorem d_M_cache_81 : decode b_M_cache 81 = .ok (.iload_n 3, 1) := by decide +kernel
theorem d_M_cache_82 : decode b_M_cache 82 = .ok (.isub, 1) := by decide +kernel
theorem d_M_cache_83 : decode b_M_cache 83 = .ok (.istore 4, 2) := by decide +kernel
theorem d_M_cache_85 : decode b_M_cache 85 = .ok (.aload_n 0, 1) := by decide +kernel
theorem d_M_cache_86 : decode b_M_cache 86 = .ok (.getfield 90, 3) := by decide +kernel
theorem d_M_cache_89 : decode b_M_cache 89 = .ok (.iload_n 1, 1) := by decide +kernel
theorem d_M_cache_90 : decode b_M_cache 90 = .ok (.aload_n 0, 1) := by decide +kernel
theorem d_M_cache_91 : decode b_M_cache 91 = .ok (.getfield 90, 3) := by decide +kernel
theorem d_M_cache_94 : decode b_M_cache 94 = .ok (.iload_n 1, 1) := by decide +kernel
theorem d_M_cache_95 : decode b_M_cache 95 = .ok (.iaload, 1) := by decide +kernel
theorem d_M_cache_96 : decode b_M_cache 96 = .ok (.iload 4, 2) := by decide +kernel
theorem d_M_cache_98 : decode b_M_cache 98 = .ok (.iadd, 1) := by decide +kernel
theorem d_M_cache_99 : decode b_M_cache 99 = .ok (.sipush 2000, 3) := by decide +kernel
theorem d_M_cache_102 : decode b_M_cache 102 = .ok (.invokestatic 143, 3) := by decide +kernel
theorem d_M_cache_105 : decode b_M_cache 105 = .ok (.iastore, 1) := by decide +kernel
theorem d_M_cache_106 : decode b_M_cache 106 = .ok (.aload_n 0, 1) := by decide +kernel
theorem d_M_cache_107 : decode b_M_cache 107 = .ok (.getfield 84, 3) := by decide +kernel
theorem d_M_cache_110 : decode b_M_cache 110 = .ok (.iload_n 1, 1) := by decide +kernel
theorem d_M_cache_111 : decode b_M_cache 111 = .ok (.iaload, 1) := by decide +kernel
theorem d_M_cache_112 : decode b_M_cache 112 = .ok (.iload 4, 2) := by decide +kernel
theorem d_M_cache_114 : decode b_M_cache 114 = .ok (.imul, 1) := by decide +kernel
theorem d_M_cache_115 : decode b_M_cache 115 = .ok (.aload_n 0, 1) := by decide +kernel
theorem d_M_cache_116 : decode b_M_cache 116 = .ok (.getfield 87, 3) := by decide +kernel
theorem d_M_cache_119 : decode b_M_cache 119 = .ok (.iload_n 1, 1) := by decide +kernel
theorem d_M_cache_120 : decode b_M_cache 120 = .ok (.iaload, 1) := by decide +kernel
theorem d_M_cache_121 : decode b_M_cache 121 = .ok (.aload_n 0, 1) := by decide +kernel
theorem d_M_cache_122 : decode b_M_cache 122 = .ok (.getfield 90, 3) := by decide +kernel
theorem d_M_cache_125 : decode b_M_cache 125 = .ok (.iload_n 1, 1) := by decide +kernel
theorem d_M_cache_126 : decode b_M_cache 126 = .ok (.iaload, 1) := by decide +kernel
theorem d_M_cache_127 : decode b_M_cache 127 = .ok (.imul, 1) := by decide +kernel
theorem d_M_cache_128 : decode b_M_cache 128 = .ok (.iadd, 1) := by decide +kernel
theorem d_M_cache_129 : decode b_M_cache 129 = .ok (.istore 5, 2) := by decide +kernel
theorem d_M_cache_131 : decode b_M_cache 131 = .ok (.iload 5, 2) := by decide +kernel
theorem d_M_cache_133 : decode b_M_cache 133 = .ok (.iconst 4, 1) := by decide +kernel
theorem d_M_cache_134 : decode b_M_cache 134 = .ok (.ishr, 1) := by decide +kernel
theorem d_M_cache_135 : decode b_M_cache 135 = .ok (.sipush 500, 3) := by decide +kernel
theorem d_M_cache_138 : decode b_M_cache 138 = .ok (.invokestatic 143, 3) := by decide +kernel
theorem d_M_cache_141 : decode b_M_cache 141 = .ok (.istore 6, 2) := by decide +kernel
theorem d_M_cache_143 : decode b_M_cache 143 = .ok (.aload_n 0, 1) := by decide +kernel
theorem d_M_cache_144 : decode b_M_cache 144 = .ok (.getfield 51, 3) := by decide +kernel
theorem d_M_cache_147 : decode b_M_cache 147 = .ok (.bipush 6, 2) := by decide +kernel
theorem d_M_cache_149 : decode b_M_cache 149 = .ok (.iaload, 1) := by decide +kernel
theorem d_M_cache_150 : decode b_M_cache 150 = .ok (.iconst 4, 1) := by decide +kernel
theorem d_M_cache_151 : decode b_M_cache 151 = .ok (.if_icmp .ge 13, 3) := by decide +kernel
theorem d_M_cache_154 : decode b_M_cache 154 = .ok (.aload_n 0, 1) := by decide +kernel
theorem d_M_cache_155 : decode b_M_cache 155 = .ok (.bipush 6, 2) := by decide +kernel
theorem d_M_cache_157 : decode b_M_cache 157 = .ok (.iload_n 1, 1) := by decide +kernel
theorem d_M_cache_158 : decode b_M_cache 158 = .ok (.iload_n 2, 1) := by decide +kernel
theorem d_M_cache_159 : decode b_M_cache 159 = .ok (.iload 6, 2) := by decide +kernel
theorem d_M_cache_161 : decode b_M_cache 161 = .ok (.invokevirtual 139, 3) := by decide +kernel
theorem d_M_cache_164 : decode b_M_cache 164 = .ok (.return_, 1) := by decide +kernel
theorem d_M_bit_0 : decode b_M_bit 0 = .ok (.lload_n 0, 1) := by decide +kernel
theorem d_M_bit_1 : decode b_M_bit 1 = .ok (.iload_n 2, 1) := by decide +kernel
theorem d_M_bit_2 : decode b_M_bit 2 = .ok (.bipush 64, 2) := by decide +kernel
theorem d_M_bit_4 : decode b_M_bit 4 = .ok (.irem, 1) := by decide +kernel
theorem d_M_bit_5 : decode b_M_bit 5 = .ok (.lshr, 1) := by decide +kernel
theorem d_M_bit_6 : decode b_M_bit 6 = .ok (.lconst 1, 1) := by decide +kernel
theorem d_M_bit_7 : decode b_M_bit 7 = .ok (.land, 1) := by decide +kernel
theorem d_M_bit_8 : decode b_M_bit 8 = .ok (.lconst 1, 1) := by decide +kernel
theorem d_M_bit_9 : decode b_M_bit 9 = .ok (.lcmp, 1) := by decide +kernel
theorem d_M_bit_10 : decode b_M_bit 10 = .ok (.ifCond .ne 7, 3) := by decide +kernel
theorem d_M_bit_13 : decode b_M_bit 13 = .ok (.iconst 1, 1) := by decide +kernel
theorem d_M_bit_14 : decode b_M_bit 14 = .ok (.goto 4, 3) := by decide +kernel
theorem d_M_bit_17 : decode b_M_bit 17 = .ok (.iconst 0, 1) := by decide +kernel
theorem d_M_bit_18 : decode b_M_bit 18 = .ok (.ireturn, 1) := by decide +kernel
theorem d_M_close_0 : decode b_M_close 0 = .ok (.aload_n 0, 1) := by decide +kernel
theorem d_M_close_1 : decode b_M_close 1 = .ok (.getfield 19, 3) := by decide +kernel
theorem d_M_close_4 : decode b_M_close 4 = .ok (.iload_n 1, 1) := by decide +kernel
theorem d_M_close_5 : decode b_M_close 5 = .ok (.iaload, 1) := by decide +kernel
theorem d_M_close_6 : decode b_M_close 6 = .ok (.aload_n 0, 1) := by decide +kernel
theorem d_M_close_7 : decode b_M_close 7 = .ok (.getfield 19, 3) := by decide +kernel
theorem d_M_close_10 : decode b_M_close 10 = .ok (.iload_n 2, 1) := by decide +kernel
theorem d_M_close_11 : decode b_M_close 11 = .ok (.iaload, 1) := by decide +kernel
theorem d_M_close_12 : decode b_M_close 12 = .ok (.isub, 1) := by decide +kernel
theorem d_M_close_13 : decode b_M_close 13 = .ok (.istore_n 3, 1) := by decide +kernel
theorem d_M_close_14 : decode b_M_close 14 = .ok (.iload_n 3, 1) := by decide +kernel
theorem d_M_close_15 : decode b_M_close 15 = .ok (.bipush (-10), 2) := by decide +kernel
theorem d_M_close_17 : decode b_M_close 17 = .ok (.if_icmp .lt 13, 3) := by decide +kernel
theorem d_M_close_20 : decode b_M_close 20 = .ok (.iload_n 3, 1) := by decide +kernel
theorem d_M_close_21 : decode b_M_close 21 = .ok (.bipush 10, 2) := by decide +kernel
theorem d_M_close_23 : decode b_M_close 23 = .ok (.if_icmp .gt 7, 3) := by decide +kernel
theorem d_M_close_26 : decode b_M_close 26 = .ok (.iconst 1, 1) := by decide +kernel
theorem d_M_close_27 : decode b_M_close 27 = .ok (.goto 4, 3) := by decide +kernel
theorem d_M_close_30 : decode b_M_close 30 = .ok (.iconst 0, 1) := by decide +kernel
theorem d_M_close_31 : decode b_M_close 31 = .ok (.ireturn, 1) := by decide +kernel
theorem d_M_advert_0 : decode b_M_advert 0 = .ok (.aload_n 0, 1) := by decide +kernel
theorem d_M_advert_1 : decode b_M_advert 1 = .ok (.getfield 16, 3) := by decide +kernel
theorem d_M_advert_4 : decode b_M_advert 4 = .ok (.iload_n 1, 1) := by decide +kernel
theorem d_M_advert_5 : decode b_M_advert 5 = .ok (.baload, 1) := by decide +kernel
theorem d_M_advert_6 : decode b_M_advert 6 = .ok (.ifCond .eq 27, 3) := by decide +kernel
theorem d_M_advert_9 : decode b_M_advert 9 = .ok (.aload_n 0, 1) := by decide +kernel
theorem d_M_advert_10 : decode b_M_advert 10 = .ok (.getfield 26, 3) := by decide +kernel
theorem d_M_advert_13 : decode b_M_advert 13 = .ok (.aload_n 0, 1) := by decide +kernel
theorem d_M_advert_14 : decode b_M_advert 14 = .ok (.getfield 147, 3) := by decide +kernel
theorem d_M_advert_17 : decode b_M_advert 17 = .ok (.aload_n 0, 1) := by decide +kernel
theorem d_M_advert_18 : decode b_M_advert 18 = .ok (.getfield 103, 3) := by decide +kernel
theorem d_M_advert_21 : decode b_M_advert 21 = .ok (.irem, 1) := by decide +kernel
theorem d_M_advert_22 : decode b_M_advert 22 = .ok (.laload, 1) := by decide +kernel
theorem d_M_advert_23 : decode b_M_advert 23 = .ok (.aload_n 0, 1) := by decide +kernel
theorem d_M_advert_24 : decode b_M_advert 24 = .ok (.getfield 147, 3) := by decide +kernel
theorem d_M_advert_27 : decode b_M_advert 27 = .ok (.invokestatic 150, 3) := by decide +kernel
theorem d_M_advert_30 : decode b_M_advert 30 = .ok (.ifCond .ne 4, 3) := by decide +kernel
theorem d_M_advert_33 : decode b_M_advert 33 = .ok (.return_, 1) := by decide +kernel
theorem d_M_advert_34 : decode b_M_advert 34 = .ok (.iconst 1, 1) := by decide +kernel
theorem d_M_advert_35 : decode b_M_advert 35 = .ok (.istore_n 2, 1) := by decide +kernel
theorem d_M_advert_36 : decode b_M_advert 36 = .ok (.iload_n 2, 1) := by decide +kernel
theorem d_M_advert_37 : decode b_M_advert 37 = .ok (.aload_n 0, 1) := by decide +kernel
theorem d_M_advert_38 : decode b_M_advert 38 = .ok (.getfield 96, 3) := by decide +kernel
theorem d_M_advert_41 : decode b_M_advert 41 = .ok (.if_icmp .ge 106, 3) := by decide +kernel
theorem d_M_advert_44 : decode b_M_advert 44 = .ok (.aload_n 0, 1) := by decide +kernel
theorem d_M_advert_45 : decode b_M_advert 45 = .ok (.getfield 7, 3) := by decide +kernel
theorem d_M_advert_48 : decode b_M_advert 48 = .ok (.bipush 6, 2) := by decide +kernel
theorem d_M_advert_50 : decode b_M_advert 50 = .ok (.iload_n 1, 1) := by decide +kernel
theorem d_M_advert_51 : decode b_M_advert 51 = .ok (.imul, 1) := by decide +kernel
theorem d_M_advert_52 : decode b_M_advert 52 = .ok (.iload_n 2, 1) := by decide +kernel
theorem d_M_advert_53 : decode b_M_advert 53 = .ok (.iadd, 1) := by decide +kernel
theorem d_M_advert_54 : decode b_M_advert 54 = .ok (.baload, 1) := by decide +kernel
theorem d_M_advert_55 : decode b_M_advert 55 = .ok (.ifCond .eq 86, 3) := by decide +kernel
theorem d_M_advert_58 : decode b_M_advert 58 = .ok (.aload_n 0, 1) := by decide +kernel
theorem d_M_advert_59 : decode b_M_advert 59 = .ok (.getfield 13, 3) := by decide +kernel
theorem d_M_advert_62 : decode b_M_advert 62 = .ok (.iload_n 2, 1) := by decide +kernel
theorem d_M_advert_63 : decode b_M_advert 63 = .ok (.baload, 1) := by decide +kernel
theorem d_M_advert_64 : decode b_M_advert 64 = .ok (.ifCond .ne 6, 3) := by decide +kernel
theorem d_M_advert_67 : decode b_M_advert 67 = .ok (.goto 74, 3) := by decide +kernel
theorem d_M_advert_70 : decode b_M_advert 70 = .ok (.aload_n 0, 1) := by decide +kernel
theorem d_M_advert_71 : decode b_M_advert 71 = .ok (.getfield 16, 3) := by decide +kernel
theorem d_M_advert_74 : decode b_M_advert 74 = .ok (.iload_n 2, 1) := by decide +kernel
theorem d_M_advert_75 : decode b_M_advert 75 = .ok (.baload, 1) := by decide +kernel
theorem d_M_advert_76 : decode b_M_advert 76 = .ok (.ifCond .ne 32, 3) := by decide +kernel
theorem d_M_advert_79 : decode b_M_advert 79 = .ok (.aload_n 0, 1) := by decide +kernel
theorem d_M_advert_80 : decode b_M_advert 80 = .ok (.getfield 16, 3) := by decide +kernel
theorem d_M_advert_83 : decode b_M_advert 83 = .ok (.iload_n 2, 1) := by decide +kernel
theorem d_M_advert_84 : decode b_M_advert 84 = .ok (.iconst 1, 1) := by decide +kernel
theorem d_M_advert_85 : decode b_M_advert 85 = .ok (.bastore, 1) := by decide +kernel
theorem d_M_advert_86 : decode b_M_advert 86 = .ok (.aload_n 0, 1) := by decide +kernel
theorem d_M_advert_87 : decode b_M_advert 87 = .ok (.getfield 19, 3) := by decide +kernel
theorem d_M_advert_90 : decode b_M_advert 90 = .ok (.iload_n 2, 1) := by decide +kernel
theorem d_M_advert_91 : decode b_M_advert 91 = .ok (.aload_n 0, 1) := by decide +kernel
theorem d_M_advert_92 : decode b_M_advert 92 = .ok (.getfield 19, 3) := by decide +kernel
theorem d_M_advert_95 : decode b_M_advert 95 = .ok (.iload_n 1, 1) := by decide +kernel
theorem d_M_advert_96 : decode b_M_advert 96 = .ok (.iaload, 1) := by decide +kernel
theorem d_M_advert_97 : decode b_M_advert 97 = .ok (.iastore, 1) := by decide +kernel
theorem d_M_advert_98 : decode b_M_advert 98 = .ok (.aload_n 0, 1) := by decide +kernel
theorem d_M_advert_99 : decode b_M_advert 99 = .ok (.getfield 63, 3) := by decide +kernel
theorem d_M_advert_102 : decode b_M_advert 102 = .ok (.iload_n 2, 1) := by decide +kernel
theorem d_M_advert_103 : decode b_M_advert 103 = .ok (.iconst 0, 1) := by decide +kernel
theorem d_M_advert_104 : decode b_M_advert 104 = .ok (.iastore, 1) := by decide +kernel
theorem d_M_advert_105 : decode b_M_advert 105 = .ok (.goto 36, 3) := by decide +kernel
theorem d_M_advert_108 : decode b_M_advert 108 = .ok (.aload_n 0, 1) := by decide +kernel
theorem d_M_advert_109 : decode b_M_advert 109 = .ok (.getfield 36, 3) := by decide +kernel
theorem d_M_advert_112 : decode b_M_advert 112 = .ok (.iconst 2, 1) := by decide +kernel
theorem d_M_advert_113 : decode b_M_advert 113 = .ok (.iload_n 2, 1) := by decide +kernel
theorem d_M_advert_114 : decode b_M_advert 114 = .ok (.imul, 1) := by decide +kernel
theorem d_M_advert_115 : decode b_M_advert 115 = .ok (.iaload, 1) := by decide +kernel
theorem d_M_advert_116 : decode b_M_advert 116 = .ok (.iload_n 1, 1) := by decide +kernel
theorem d_M_advert_117 : decode b_M_advert 117 = .ok (.if_icmp .ne 24, 3) := by decide +kernel
theorem d_M_advert_120 : decode b_M_advert 120 = .ok (.aload_n 0, 1) := by decide +kernel
theorem d_M_advert_121 : decode b_M_advert 121 = .ok (.iload_n 1, 1) := by decide +kernel
theorem d_M_advert_122 : decode b_M_advert 122 = .ok (.iload_n 2, 1) := by decide +kernel
theorem d_M_advert_123 : decode b_M_advert 123 = .ok (.invokevirtual 154, 3) := by decide +kernel
theorem d_M_advert_126 : decode b_M_advert 126 = .ok (.ifCond .eq 15, 3) := by decide +kernel
theorem d_M_advert_129 : decode b_M_advert 129 = .ok (.aload_n 0, 1) := by decide +kernel
theorem d_M_advert_130 : decode b_M_advert 130 = .ok (.getfield 19, 3) := by decide +kernel
theorem d_M_advert_133 : decode b_M_advert 133 = .ok (.iload_n 2, 1) := by decide +kernel
theorem d_M_advert_134 : decode b_M_advert 134 = .ok (.aload_n 0, 1) := by decide +kernel
theorem d_M_advert_135 : decode b_M_advert 135 = .ok (.getfield 19, 3) := by decide +kernel
theorem d_M_advert_138 : decode b_M_advert 138 = .ok (.iload_n 1, 1) := by decide +kernel
theorem d_M_advert_139 : decode b_M_advert 139 = .ok (.iaload, 1) := by decide +kernel
theorem d_M_advert_140 : decode b_M_advert 140 = .ok (.iastore, 1) := by decide +kernel
theorem d_M_advert_141 : decode b_M_advert 141 = .ok (.iinc 2 1, 3) := by decide +kernel
theorem d_M_advert_144 : decode b_M_advert 144 = .ok (.goto (-108), 3) := by decide +kernel
theorem d_M_advert_147 : decode b_M_advert 147 = .ok (.return_, 1) := by decide +kernel
theorem d_M_hears_0 : decode b_M_hears 0 = .ok (.aload_n 0, 1) := by decide +kernel
theorem d_M_hears_1 : decode b_M_hears 1 = .ok (.getfield 16, 3) := by decide +kernel
theorem d_M_hears_4 : decode b_M_hears 4 = .ok (.iload_n 2, 1) := by decide +kernel
theorem d_M_hears_5 : decode b_M_hears 5 = .ok (.baload, 1) := by decide +kernel
theorem d_M_hears_6 : decode b_M_hears 6 = .ok (.ifCond .eq 46, 3) := by decide +kernel
theorem d_M_hears_9 : decode b_M_hears 9 = .ok (.aload_n 0, 1) := by decide +kernel
theorem d_M_hears_10 : decode b_M_hears 10 = .ok (.getfield 7, 3) := by decide +kernel
theorem d_M_hears_13 : decode b_M_hears 13 = .ok (.bipush 6, 2) := by decide +kernel
theorem d_M_hears_15 : decode b_M_hears 15 = .ok (.iload_n 1, 1) := by decide +kernel
theorem d_M_hears_16 : decode b_M_hears 16 = .ok (.imul, 1) := by decide +kernel
theorem d_M_hears_17 : decode b_M_hears 17 = .ok (.iload_n 2, 1) := by decide +kernel
theorem d_M_hears_18 : decode b_M_hears 18 = .ok (.iadd, 1) := by decide +kernel
theorem d_M_hears_19 : decode b_M_hears 19 = .ok (.baload, 1) := by decide +kernel
