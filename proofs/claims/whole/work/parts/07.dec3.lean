theorem d_P_findRanks_48 : decode b_P_findRanks 48 = .ok (.iaload, 1) := by decide +kernel
theorem d_P_findRanks_49 : decode b_P_findRanks 49 = .ok (.iconst (-1), 1) := by decide +kernel
theorem d_P_findRanks_50 : decode b_P_findRanks 50 = .ok (.if_icmp .ne 38, 3) := by decide +kernel
theorem d_P_findRanks_53 : decode b_P_findRanks 53 = .ok (.aload_n 0, 1) := by decide +kernel
theorem d_P_findRanks_54 : decode b_P_findRanks 54 = .ok (.aload_n 1, 1) := by decide +kernel
theorem d_P_findRanks_55 : decode b_P_findRanks 55 = .ok (.iload 4, 2) := by decide +kernel
theorem d_P_findRanks_57 : decode b_P_findRanks 57 = .ok (.aaload, 1) := by decide +kernel
theorem d_P_findRanks_58 : decode b_P_findRanks 58 = .ok (.iload_n 3, 1) := by decide +kernel
theorem d_P_findRanks_59 : decode b_P_findRanks 59 = .ok (.iconst 1, 1) := by decide +kernel
theorem d_P_findRanks_60 : decode b_P_findRanks 60 = .ok (.isub, 1) := by decide +kernel
theorem d_P_findRanks_61 : decode b_P_findRanks 61 = .ok (.iconst 0, 1) := by decide +kernel
theorem d_P_findRanks_62 : decode b_P_findRanks 62 = .ok (.invokevirtual 62, 3) := by decide +kernel
theorem d_P_findRanks_65 : decode b_P_findRanks 65 = .ok (.iconst (-1), 1) := by decide +kernel
theorem d_P_findRanks_66 : decode b_P_findRanks 66 = .ok (.if_icmp .eq 22, 3) := by decide +kernel
theorem d_P_findRanks_69 : decode b_P_findRanks 69 = .ok (.aload_n 0, 1) := by decide +kernel
theorem d_P_findRanks_70 : decode b_P_findRanks 70 = .ok (.getfield 18, 3) := by decide +kernel
theorem d_P_findRanks_73 : decode b_P_findRanks 73 = .ok (.iload 4, 2) := by decide +kernel
theorem d_P_findRanks_75 : decode b_P_findRanks 75 = .ok (.iload_n 3, 1) := by decide +kernel
theorem d_P_findRanks_76 : decode b_P_findRanks 76 = .ok (.iastore, 1) := by decide +kernel
theorem d_P_findRanks_77 : decode b_P_findRanks 77 = .ok (.aload_n 0, 1) := by decide +kernel
theorem d_P_findRanks_78 : decode b_P_findRanks 78 = .ok (.getfield 28, 3) := by decide +kernel
theorem d_P_findRanks_81 : decode b_P_findRanks 81 = .ok (.iload_n 2, 1) := by decide +kernel
theorem d_P_findRanks_82 : decode b_P_findRanks 82 = .ok (.iload 4, 2) := by decide +kernel
theorem d_P_findRanks_84 : decode b_P_findRanks 84 = .ok (.iastore, 1) := by decide +kernel
theorem d_P_findRanks_85 : decode b_P_findRanks 85 = .ok (.iinc 2 1, 3) := by decide +kernel
theorem d_P_findRanks_88 : decode b_P_findRanks 88 = .ok (.iinc 4 1, 3) := by decide +kernel
theorem d_P_findRanks_91 : decode b_P_findRanks 91 = .ok (.goto (-56), 3) := by decide +kernel
theorem d_P_findRanks_94 : decode b_P_findRanks 94 = .ok (.iinc 3 1, 3) := by decide +kernel
theorem d_P_findRanks_97 : decode b_P_findRanks 97 = .ok (.goto (-71), 3) := by decide +kernel
theorem d_P_findRanks_100 : decode b_P_findRanks 100 = .ok (.iload_n 2, 1) := by decide +kernel
theorem d_P_findRanks_101 : decode b_P_findRanks 101 = .ok (.aload_n 1, 1) := by decide +kernel
theorem d_P_findRanks_102 : decode b_P_findRanks 102 = .ok (.arraylength, 1) := by decide +kernel
theorem d_P_findRanks_103 : decode b_P_findRanks 103 = .ok (.if_icmp .ne 7, 3) := by decide +kernel
theorem d_P_findRanks_106 : decode b_P_findRanks 106 = .ok (.iconst 1, 1) := by decide +kernel
theorem d_P_findRanks_107 : decode b_P_findRanks 107 = .ok (.goto 4, 3) := by decide +kernel
theorem d_P_findRanks_110 : decode b_P_findRanks 110 = .ok (.iconst 0, 1) := by decide +kernel
theorem d_P_findRanks_111 : decode b_P_findRanks 111 = .ok (.ireturn, 1) := by decide +kernel
theorem d_P_findParents_0 : decode b_P_findParents 0 = .ok (.aload_n 0, 1) := by decide +kernel
theorem d_P_findParents_1 : decode b_P_findParents 1 = .ok (.getfield 22, 3) := by decide +kernel
theorem d_P_findParents_4 : decode b_P_findParents 4 = .ok (.iconst 0, 1) := by decide +kernel
theorem d_P_findParents_5 : decode b_P_findParents 5 = .ok (.iconst (-1), 1) := by decide +kernel
theorem d_P_findParents_6 : decode b_P_findParents 6 = .ok (.iastore, 1) := by decide +kernel
theorem d_P_findParents_7 : decode b_P_findParents 7 = .ok (.aload_n 0, 1) := by decide +kernel
theorem d_P_findParents_8 : decode b_P_findParents 8 = .ok (.getfield 25, 3) := by decide +kernel
theorem d_P_findParents_11 : decode b_P_findParents 11 = .ok (.iconst 0, 1) := by decide +kernel
theorem d_P_findParents_12 : decode b_P_findParents 12 = .ok (.iconst (-1), 1) := by decide +kernel
theorem d_P_findParents_13 : decode b_P_findParents 13 = .ok (.iastore, 1) := by decide +kernel
theorem d_P_findParents_14 : decode b_P_findParents 14 = .ok (.iconst 1, 1) := by decide +kernel
theorem d_P_findParents_15 : decode b_P_findParents 15 = .ok (.istore_n 2, 1) := by decide +kernel
theorem d_P_findParents_16 : decode b_P_findParents 16 = .ok (.iload_n 2, 1) := by decide +kernel
theorem d_P_findParents_17 : decode b_P_findParents 17 = .ok (.aload_n 1, 1) := by decide +kernel
theorem d_P_findParents_18 : decode b_P_findParents 18 = .ok (.arraylength, 1) := by decide +kernel
theorem d_P_findParents_19 : decode b_P_findParents 19 = .ok (.if_icmp .ge 60, 3) := by decide +kernel
theorem d_P_findParents_22 : decode b_P_findParents 22 = .ok (.aload_n 0, 1) := by decide +kernel
theorem d_P_findParents_23 : decode b_P_findParents 23 = .ok (.getfield 22, 3) := by decide +kernel
theorem d_P_findParents_26 : decode b_P_findParents 26 = .ok (.iload_n 2, 1) := by decide +kernel
theorem d_P_findParents_27 : decode b_P_findParents 27 = .ok (.aload_n 0, 1) := by decide +kernel
theorem d_P_findParents_28 : decode b_P_findParents 28 = .ok (.aload_n 1, 1) := by decide +kernel
theorem d_P_findParents_29 : decode b_P_findParents 29 = .ok (.iload_n 2, 1) := by decide +kernel
theorem d_P_findParents_30 : decode b_P_findParents 30 = .ok (.aaload, 1) := by decide +kernel
theorem d_P_findParents_31 : decode b_P_findParents 31 = .ok (.aload_n 0, 1) := by decide +kernel
theorem d_P_findParents_32 : decode b_P_findParents 32 = .ok (.getfield 18, 3) := by decide +kernel
theorem d_P_findParents_35 : decode b_P_findParents 35 = .ok (.iload_n 2, 1) := by decide +kernel
theorem d_P_findParents_36 : decode b_P_findParents 36 = .ok (.iaload, 1) := by decide +kernel
theorem d_P_findParents_37 : decode b_P_findParents 37 = .ok (.iconst 1, 1) := by decide +kernel
theorem d_P_findParents_38 : decode b_P_findParents 38 = .ok (.isub, 1) := by decide +kernel
theorem d_P_findParents_39 : decode b_P_findParents 39 = .ok (.iconst 0, 1) := by decide +kernel
theorem d_P_findParents_40 : decode b_P_findParents 40 = .ok (.invokevirtual 62, 3) := by decide +kernel
theorem d_P_findParents_43 : decode b_P_findParents 43 = .ok (.iastore, 1) := by decide +kernel
theorem d_P_findParents_44 : decode b_P_findParents 44 = .ok (.aload_n 0, 1) := by decide +kernel
theorem d_P_findParents_45 : decode b_P_findParents 45 = .ok (.getfield 25, 3) := by decide +kernel
theorem d_P_findParents_48 : decode b_P_findParents 48 = .ok (.iload_n 2, 1) := by decide +kernel
theorem d_P_findParents_49 : decode b_P_findParents 49 = .ok (.aload_n 0, 1) := by decide +kernel
theorem d_P_findParents_50 : decode b_P_findParents 50 = .ok (.aload_n 1, 1) := by decide +kernel
theorem d_P_findParents_51 : decode b_P_findParents 51 = .ok (.iload_n 2, 1) := by decide +kernel
theorem d_P_findParents_52 : decode b_P_findParents 52 = .ok (.aaload, 1) := by decide +kernel
theorem d_P_findParents_53 : decode b_P_findParents 53 = .ok (.aload_n 0, 1) := by decide +kernel
theorem d_P_findParents_54 : decode b_P_findParents 54 = .ok (.getfield 18, 3) := by decide +kernel
theorem d_P_findParents_57 : decode b_P_findParents 57 = .ok (.iload_n 2, 1) := by decide +kernel
theorem d_P_findParents_58 : decode b_P_findParents 58 = .ok (.iaload, 1) := by decide +kernel
theorem d_P_findParents_59 : decode b_P_findParents 59 = .ok (.iconst 1, 1) := by decide +kernel
theorem d_P_findParents_60 : decode b_P_findParents 60 = .ok (.isub, 1) := by decide +kernel
theorem d_P_findParents_61 : decode b_P_findParents 61 = .ok (.aload_n 0, 1) := by decide +kernel
theorem d_P_findParents_62 : decode b_P_findParents 62 = .ok (.getfield 22, 3) := by decide +kernel
theorem d_P_findParents_65 : decode b_P_findParents 65 = .ok (.iload_n 2, 1) := by decide +kernel
theorem d_P_findParents_66 : decode b_P_findParents 66 = .ok (.iaload, 1) := by decide +kernel
theorem d_P_findParents_67 : decode b_P_findParents 67 = .ok (.iconst 1, 1) := by decide +kernel
theorem d_P_findParents_68 : decode b_P_findParents 68 = .ok (.iadd, 1) := by decide +kernel
theorem d_P_findParents_69 : decode b_P_findParents 69 = .ok (.invokevirtual 62, 3) := by decide +kernel
theorem d_P_findParents_72 : decode b_P_findParents 72 = .ok (.iastore, 1) := by decide +kernel
theorem d_P_findParents_73 : decode b_P_findParents 73 = .ok (.iinc 2 1, 3) := by decide +kernel
theorem d_P_findParents_76 : decode b_P_findParents 76 = .ok (.goto (-60), 3) := by decide +kernel
theorem d_P_findParents_79 : decode b_P_findParents 79 = .ok (.return_, 1) := by decide +kernel
theorem d_P_nextNearOfRank_0 : decode b_P_nextNearOfRank 0 = .ok (.iload_n 3, 1) := by decide +kernel
theorem d_P_nextNearOfRank_1 : decode b_P_nextNearOfRank 1 = .ok (.istore 4, 2) := by decide +kernel
theorem d_P_nextNearOfRank_3 : decode b_P_nextNearOfRank 3 = .ok (.iload 4, 2) := by decide +kernel
theorem d_P_nextNearOfRank_5 : decode b_P_nextNearOfRank 5 = .ok (.aload_n 0, 1) := by decide +kernel
theorem d_P_nextNearOfRank_6 : decode b_P_nextNearOfRank 6 = .ok (.getfield 18, 3) := by decide +kernel
theorem d_P_nextNearOfRank_9 : decode b_P_nextNearOfRank 9 = .ok (.arraylength, 1) := by decide +kernel
theorem d_P_nextNearOfRank_10 : decode b_P_nextNearOfRank 10 = .ok (.if_icmp .ge 33, 3) := by decide +kernel
theorem d_P_nextNearOfRank_13 : decode b_P_nextNearOfRank 13 = .ok (.aload_n 1, 1) := by decide +kernel
theorem d_P_nextNearOfRank_14 : decode b_P_nextNearOfRank 14 = .ok (.getfield 66, 3) := by decide +kernel
theorem d_P_nextNearOfRank_17 : decode b_P_nextNearOfRank 17 = .ok (.iload 4, 2) := by decide +kernel
theorem d_P_nextNearOfRank_19 : decode b_P_nextNearOfRank 19 = .ok (.baload, 1) := by decide +kernel
theorem d_P_nextNearOfRank_20 : decode b_P_nextNearOfRank 20 = .ok (.ifCond .eq 17, 3) := by decide +kernel
theorem d_P_nextNearOfRank_23 : decode b_P_nextNearOfRank 23 = .ok (.aload_n 0, 1) := by decide +kernel
theorem d_P_nextNearOfRank_24 : decode b_P_nextNearOfRank 24 = .ok (.getfield 18, 3) := by decide +kernel
theorem d_P_nextNearOfRank_27 : decode b_P_nextNearOfRank 27 = .ok (.iload 4, 2) := by decide +kernel
theorem d_P_nextNearOfRank_29 : decode b_P_nextNearOfRank 29 = .ok (.iaload, 1) := by decide +kernel
theorem d_P_nextNearOfRank_30 : decode b_P_nextNearOfRank 30 = .ok (.iload_n 2, 1) := by decide +kernel
theorem d_P_nextNearOfRank_31 : decode b_P_nextNearOfRank 31 = .ok (.if_icmp .ne 6, 3) := by decide +kernel
theorem d_P_nextNearOfRank_34 : decode b_P_nextNearOfRank 34 = .ok (.iload 4, 2) := by decide +kernel
theorem d_P_nextNearOfRank_36 : decode b_P_nextNearOfRank 36 = .ok (.ireturn, 1) := by decide +kernel
theorem d_P_nextNearOfRank_37 : decode b_P_nextNearOfRank 37 = .ok (.iinc 4 1, 3) := by decide +kernel
theorem d_P_nextNearOfRank_40 : decode b_P_nextNearOfRank 40 = .ok (.goto (-37), 3) := by decide +kernel
theorem d_P_nextNearOfRank_43 : decode b_P_nextNearOfRank 43 = .ok (.iconst (-1), 1) := by decide +kernel
theorem d_P_nextNearOfRank_44 : decode b_P_nextNearOfRank 44 = .ok (.ireturn, 1) := by decide +kernel
theorem d_P_placeAdverts_0 : decode b_P_placeAdverts 0 = .ok (.iconst 0, 1) := by decide +kernel
theorem d_P_placeAdverts_1 : decode b_P_placeAdverts 1 = .ok (.istore_n 1, 1) := by decide +kernel
theorem d_P_placeAdverts_2 : decode b_P_placeAdverts 2 = .ok (.iload_n 1, 1) := by decide +kernel
theorem d_P_placeAdverts_3 : decode b_P_placeAdverts 3 = .ok (.aload_n 0, 1) := by decide +kernel
theorem d_P_placeAdverts_4 : decode b_P_placeAdverts 4 = .ok (.getfield 28, 3) := by decide +kernel
theorem d_P_placeAdverts_7 : decode b_P_placeAdverts 7 = .ok (.arraylength, 1) := by decide +kernel
theorem d_P_placeAdverts_8 : decode b_P_placeAdverts 8 = .ok (.if_icmp .ge 24, 3) := by decide +kernel
theorem d_P_placeAdverts_11 : decode b_P_placeAdverts 11 = .ok (.aload_n 0, 1) := by decide +kernel
theorem d_P_placeAdverts_12 : decode b_P_placeAdverts 12 = .ok (.aload_n 0, 1) := by decide +kernel
theorem d_P_placeAdverts_13 : decode b_P_placeAdverts 13 = .ok (.getfield 28, 3) := by decide +kernel
theorem d_P_placeAdverts_16 : decode b_P_placeAdverts 16 = .ok (.iload_n 1, 1) := by decide +kernel
theorem d_P_placeAdverts_17 : decode b_P_placeAdverts 17 = .ok (.iaload, 1) := by decide +kernel
theorem d_P_placeAdverts_18 : decode b_P_placeAdverts 18 = .ok (.invokevirtual 72, 3) := by decide +kernel
theorem d_P_placeAdverts_21 : decode b_P_placeAdverts 21 = .ok (.ifCond .ne 5, 3) := by decide +kernel
theorem d_P_placeAdverts_24 : decode b_P_placeAdverts 24 = .ok (.iconst 0, 1) := by decide +kernel
theorem d_P_placeAdverts_25 : decode b_P_placeAdverts 25 = .ok (.ireturn, 1) := by decide +kernel
theorem d_P_placeAdverts_26 : decode b_P_placeAdverts 26 = .ok (.iinc 1 1, 3) := by decide +kernel
theorem d_P_placeAdverts_29 : decode b_P_placeAdverts 29 = .ok (.goto (-27), 3) := by decide +kernel
theorem d_P_placeAdverts_32 : decode b_P_placeAdverts 32 = .ok (.iconst 1, 1) := by decide +kernel
theorem d_P_placeAdverts_33 : decode b_P_placeAdverts 33 = .ok (.ireturn, 1) := by decide +kernel
theorem d_P_placeAdvert_0 : decode b_P_placeAdvert 0 = .ok (.iconst 0, 1) := by decide +kernel
theorem d_P_placeAdvert_1 : decode b_P_placeAdvert 1 = .ok (.istore_n 2, 1) := by decide +kernel
theorem d_P_placeAdvert_2 : decode b_P_placeAdvert 2 = .ok (.iload_n 2, 1) := by decide +kernel
theorem d_P_placeAdvert_3 : decode b_P_placeAdvert 3 = .ok (.aload_n 0, 1) := by decide +kernel
theorem d_P_placeAdvert_4 : decode b_P_placeAdvert 4 = .ok (.getfield 9, 3) := by decide +kernel
theorem d_P_placeAdvert_7 : decode b_P_placeAdvert 7 = .ok (.if_icmp .ge 42, 3) := by decide +kernel
theorem d_P_placeAdvert_10 : decode b_P_placeAdvert 10 = .ok (.aload_n 0, 1) := by decide +kernel
theorem d_P_placeAdvert_11 : decode b_P_placeAdvert 11 = .ok (.iload_n 2, 1) := by decide +kernel
theorem d_P_placeAdvert_12 : decode b_P_placeAdvert 12 = .ok (.iconst 0, 1) := by decide +kernel
theorem d_P_placeAdvert_13 : decode b_P_placeAdvert 13 = .ok (.invokevirtual 76, 3) := by decide +kernel
theorem d_P_placeAdvert_16 : decode b_P_placeAdvert 16 = .ok (.ifCond .ne 27, 3) := by decide +kernel
theorem d_P_placeAdvert_19 : decode b_P_placeAdvert 19 = .ok (.aload_n 0, 1) := by decide +kernel
theorem d_P_placeAdvert_20 : decode b_P_placeAdvert 20 = .ok (.iload_n 2, 1) := by decide +kernel
theorem d_P_placeAdvert_21 : decode b_P_placeAdvert 21 = .ok (.bipush 100, 2) := by decide +kernel
theorem d_P_placeAdvert_23 : decode b_P_placeAdvert 23 = .ok (.bipush 10, 2) := by decide +kernel
theorem d_P_placeAdvert_25 : decode b_P_placeAdvert 25 = .ok (.iload_n 1, 1) := by decide +kernel
theorem d_P_placeAdvert_26 : decode b_P_placeAdvert 26 = .ok (.imul, 1) := by decide +kernel
theorem d_P_placeAdvert_27 : decode b_P_placeAdvert 27 = .ok (.iadd, 1) := by decide +kernel
theorem d_P_placeAdvert_28 : decode b_P_placeAdvert 28 = .ok (.invokevirtual 80, 3) := by decide +kernel
theorem d_P_placeAdvert_31 : decode b_P_placeAdvert 31 = .ok (.aload_n 0, 1) := by decide +kernel
theorem d_P_placeAdvert_32 : decode b_P_placeAdvert 32 = .ok (.dup, 1) := by decide +kernel
theorem d_P_placeAdvert_33 : decode b_P_placeAdvert 33 = .ok (.getfield 38, 3) := by decide +kernel
theorem d_P_placeAdvert_36 : decode b_P_placeAdvert 36 = .ok (.iconst 1, 1) := by decide +kernel
theorem d_P_placeAdvert_37 : decode b_P_placeAdvert 37 = .ok (.iadd, 1) := by decide +kernel
theorem d_P_placeAdvert_38 : decode b_P_placeAdvert 38 = .ok (.putfield 38, 3) := by decide +kernel
theorem d_P_placeAdvert_41 : decode b_P_placeAdvert 41 = .ok (.iconst 1, 1) := by decide +kernel
theorem d_P_placeAdvert_42 : decode b_P_placeAdvert 42 = .ok (.ireturn, 1) := by decide +kernel
theorem d_P_placeAdvert_43 : decode b_P_placeAdvert 43 = .ok (.iinc 2 1, 3) := by decide +kernel
theorem d_P_placeAdvert_46 : decode b_P_placeAdvert 46 = .ok (.goto (-44), 3) := by decide +kernel
theorem d_P_placeAdvert_49 : decode b_P_placeAdvert 49 = .ok (.iconst 0, 1) := by decide +kernel
theorem d_P_placeAdvert_50 : decode b_P_placeAdvert 50 = .ok (.ireturn, 1) := by decide +kernel
theorem d_P_fillSlot_0 : decode b_P_fillSlot 0 = .ok (.iconst 0, 1) := by decide +kernel
theorem d_P_fillSlot_1 : decode b_P_fillSlot 1 = .ok (.istore_n 3, 1) := by decide +kernel
theorem d_P_fillSlot_2 : decode b_P_fillSlot 2 = .ok (.iload_n 3, 1) := by decide +kernel
theorem d_P_fillSlot_3 : decode b_P_fillSlot 3 = .ok (.aload_n 0, 1) := by decide +kernel
theorem d_P_fillSlot_4 : decode b_P_fillSlot 4 = .ok (.getfield 15, 3) := by decide +kernel
theorem d_P_fillSlot_7 : decode b_P_fillSlot 7 = .ok (.if_icmp .ge 23, 3) := by decide +kernel
theorem d_P_fillSlot_10 : decode b_P_fillSlot 10 = .ok (.aload_n 0, 1) := by decide +kernel
theorem d_P_fillSlot_11 : decode b_P_fillSlot 11 = .ok (.getfield 31, 3) := by decide +kernel
theorem d_P_fillSlot_14 : decode b_P_fillSlot 14 = .ok (.iload_n 1, 1) := by decide +kernel
theorem d_P_fillSlot_15 : decode b_P_fillSlot 15 = .ok (.aload_n 0, 1) := by decide +kernel
theorem d_P_fillSlot_16 : decode b_P_fillSlot 16 = .ok (.getfield 15, 3) := by decide +kernel
theorem d_P_fillSlot_19 : decode b_P_fillSlot 19 = .ok (.imul, 1) := by decide +kernel
theorem d_P_fillSlot_20 : decode b_P_fillSlot 20 = .ok (.iload_n 3, 1) := by decide +kernel
theorem d_P_fillSlot_21 : decode b_P_fillSlot 21 = .ok (.iadd, 1) := by decide +kernel
theorem d_P_fillSlot_22 : decode b_P_fillSlot 22 = .ok (.iload_n 2, 1) := by decide +kernel
theorem d_P_fillSlot_23 : decode b_P_fillSlot 23 = .ok (.iastore, 1) := by decide +kernel
theorem d_P_fillSlot_24 : decode b_P_fillSlot 24 = .ok (.iinc 3 1, 3) := by decide +kernel
theorem d_P_fillSlot_27 : decode b_P_fillSlot 27 = .ok (.goto (-25), 3) := by decide +kernel
theorem d_P_fillSlot_30 : decode b_P_fillSlot 30 = .ok (.return_, 1) := by decide +kernel
theorem d_P_placeLinks_0 : decode b_P_placeLinks 0 = .ok (.iconst 1, 1) := by decide +kernel
theorem d_P_placeLinks_1 : decode b_P_placeLinks 1 = .ok (.istore_n 1, 1) := by decide +kernel
theorem d_P_placeLinks_2 : decode b_P_placeLinks 2 = .ok (.iload_n 1, 1) := by decide +kernel
theorem d_P_placeLinks_3 : decode b_P_placeLinks 3 = .ok (.aload_n 0, 1) := by decide +kernel
theorem d_P_placeLinks_4 : decode b_P_placeLinks 4 = .ok (.getfield 28, 3) := by decide +kernel
theorem d_P_placeLinks_7 : decode b_P_placeLinks 7 = .ok (.arraylength, 1) := by decide +kernel
theorem d_P_placeLinks_8 : decode b_P_placeLinks 8 = .ok (.if_icmp .ge 88, 3) := by decide +kernel
theorem d_P_placeLinks_11 : decode b_P_placeLinks 11 = .ok (.aload_n 0, 1) := by decide +kernel
theorem d_P_placeLinks_12 : decode b_P_placeLinks 12 = .ok (.getfield 28, 3) := by decide +kernel
theorem d_P_placeLinks_15 : decode b_P_placeLinks 15 = .ok (.iload_n 1, 1) := by decide +kernel
theorem d_P_placeLinks_16 : decode b_P_placeLinks 16 = .ok (.iaload, 1) := by decide +kernel
theorem d_P_placeLinks_17 : decode b_P_placeLinks 17 = .ok (.istore_n 2, 1) := by decide +kernel
theorem d_P_placeLinks_18 : decode b_P_placeLinks 18 = .ok (.aload_n 0, 1) := by decide +kernel
theorem d_P_placeLinks_19 : decode b_P_placeLinks 19 = .ok (.getfield 22, 3) := by decide +kernel
theorem d_P_placeLinks_22 : decode b_P_placeLinks 22 = .ok (.iload_n 2, 1) := by decide +kernel
theorem d_P_placeLinks_23 : decode b_P_placeLinks 23 = .ok (.iaload, 1) := by decide +kernel
theorem d_P_placeLinks_24 : decode b_P_placeLinks 24 = .ok (.istore_n 3, 1) := by decide +kernel
theorem d_P_placeLinks_25 : decode b_P_placeLinks 25 = .ok (.aload_n 0, 1) := by decide +kernel
theorem d_P_placeLinks_26 : decode b_P_placeLinks 26 = .ok (.getfield 25, 3) := by decide +kernel
theorem d_P_placeLinks_29 : decode b_P_placeLinks 29 = .ok (.iload_n 2, 1) := by decide +kernel
theorem d_P_placeLinks_30 : decode b_P_placeLinks 30 = .ok (.iaload, 1) := by decide +kernel
theorem d_P_placeLinks_31 : decode b_P_placeLinks 31 = .ok (.istore 4, 2) := by decide +kernel
theorem d_P_placeLinks_33 : decode b_P_placeLinks 33 = .ok (.aload_n 0, 1) := by decide +kernel
theorem d_P_placeLinks_34 : decode b_P_placeLinks 34 = .ok (.sipush 200, 3) := by decide +kernel
theorem d_P_placeLinks_37 : decode b_P_placeLinks 37 = .ok (.iload_n 2, 1) := by decide +kernel
theorem d_P_placeLinks_38 : decode b_P_placeLinks 38 = .ok (.iload_n 3, 1) := by decide +kernel
theorem d_P_placeLinks_39 : decode b_P_placeLinks 39 = .ok (.invokevirtual 84, 3) := by decide +kernel
theorem d_P_placeLinks_42 : decode b_P_placeLinks 42 = .ok (.ifCond .eq 38, 3) := by decide +kernel
theorem d_P_placeLinks_45 : decode b_P_placeLinks 45 = .ok (.iload 4, 2) := by decide +kernel
theorem d_P_placeLinks_47 : decode b_P_placeLinks 47 = .ok (.iconst (-1), 1) := by decide +kernel
theorem d_P_placeLinks_48 : decode b_P_placeLinks 48 = .ok (.if_icmp .eq 16, 3) := by decide +kernel
theorem d_P_placeLinks_51 : decode b_P_placeLinks 51 = .ok (.aload_n 0, 1) := by decide +kernel
theorem d_P_placeLinks_52 : decode b_P_placeLinks 52 = .ok (.sipush 200, 3) := by decide +kernel
theorem d_P_placeLinks_55 : decode b_P_placeLinks 55 = .ok (.iload_n 2, 1) := by decide +kernel
theorem d_P_placeLinks_56 : decode b_P_placeLinks 56 = .ok (.iload 4, 2) := by decide +kernel
theorem d_P_placeLinks_58 : decode b_P_placeLinks 58 = .ok (.invokevirtual 84, 3) := by decide +kernel
theorem d_P_placeLinks_61 : decode b_P_placeLinks 61 = .ok (.ifCond .eq 19, 3) := by decide +kernel
theorem d_P_placeLinks_64 : decode b_P_placeLinks 64 = .ok (.aload_n 0, 1) := by decide +kernel
theorem d_P_placeLinks_65 : decode b_P_placeLinks 65 = .ok (.sipush 300, 3) := by decide +kernel
theorem d_P_placeLinks_68 : decode b_P_placeLinks 68 = .ok (.iload_n 3, 1) := by decide +kernel
theorem d_P_placeLinks_69 : decode b_P_placeLinks 69 = .ok (.iload_n 2, 1) := by decide +kernel
theorem d_P_placeLinks_70 : decode b_P_placeLinks 70 = .ok (.invokevirtual 84, 3) := by decide +kernel
theorem d_P_placeLinks_73 : decode b_P_placeLinks 73 = .ok (.ifCond .eq 7, 3) := by decide +kernel
theorem d_P_placeLinks_76 : decode b_P_placeLinks 76 = .ok (.iconst 1, 1) := by decide +kernel
theorem d_P_placeLinks_77 : decode b_P_placeLinks 77 = .ok (.goto 4, 3) := by decide +kernel
theorem d_P_placeLinks_80 : decode b_P_placeLinks 80 = .ok (.iconst 0, 1) := by decide +kernel
theorem d_P_placeLinks_81 : decode b_P_placeLinks 81 = .ok (.istore 5, 2) := by decide +kernel
theorem d_P_placeLinks_83 : decode b_P_placeLinks 83 = .ok (.iload 5, 2) := by decide +kernel
theorem d_P_placeLinks_85 : decode b_P_placeLinks 85 = .ok (.ifCond .ne 5, 3) := by decide +kernel
theorem d_P_placeLinks_88 : decode b_P_placeLinks 88 = .ok (.iconst 0, 1) := by decide +kernel
theorem d_P_placeLinks_89 : decode b_P_placeLinks 89 = .ok (.ireturn, 1) := by decide +kernel
theorem d_P_placeLinks_90 : decode b_P_placeLinks 90 = .ok (.iinc 1 1, 3) := by decide +kernel
theorem d_P_placeLinks_93 : decode b_P_placeLinks 93 = .ok (.goto (-91), 3) := by decide +kernel
theorem d_P_placeLinks_96 : decode b_P_placeLinks 96 = .ok (.iconst 1, 1) := by decide +kernel
theorem d_P_placeLinks_97 : decode b_P_placeLinks 97 = .ok (.ireturn, 1) := by decide +kernel
theorem d_P_placeLink_0 : decode b_P_placeLink 0 = .ok (.iconst 0, 1) := by decide +kernel
theorem d_P_placeLink_1 : decode b_P_placeLink 1 = .ok (.istore 4, 2) := by decide +kernel
theorem d_P_placeLink_3 : decode b_P_placeLink 3 = .ok (.iload 4, 2) := by decide +kernel
theorem d_P_placeLink_5 : decode b_P_placeLink 5 = .ok (.aload_n 0, 1) := by decide +kernel
theorem d_P_placeLink_6 : decode b_P_placeLink 6 = .ok (.getfield 9, 3) := by decide +kernel
theorem d_P_placeLink_9 : decode b_P_placeLink 9 = .ok (.if_icmp .ge 60, 3) := by decide +kernel
theorem d_P_placeLink_12 : decode b_P_placeLink 12 = .ok (.aload_n 0, 1) := by decide +kernel
theorem d_P_placeLink_13 : decode b_P_placeLink 13 = .ok (.iload 4, 2) := by decide +kernel
theorem d_P_placeLink_15 : decode b_P_placeLink 15 = .ok (.iload_n 2, 1) := by decide +kernel
theorem d_P_placeLink_16 : decode b_P_placeLink 16 = .ok (.iload_n 3, 1) := by decide +kernel
theorem d_P_placeLink_17 : decode b_P_placeLink 17 = .ok (.invokevirtual 88, 3) := by decide +kernel
theorem d_P_placeLink_20 : decode b_P_placeLink 20 = .ok (.istore 5, 2) := by decide +kernel
theorem d_P_placeLink_22 : decode b_P_placeLink 22 = .ok (.iload 5, 2) := by decide +kernel
theorem d_P_placeLink_24 : decode b_P_placeLink 24 = .ok (.iconst (-1), 1) := by decide +kernel
theorem d_P_placeLink_25 : decode b_P_placeLink 25 = .ok (.if_icmp .eq 38, 3) := by decide +kernel
theorem d_P_placeLink_28 : decode b_P_placeLink 28 = .ok (.aload_n 0, 1) := by decide +kernel
theorem d_P_placeLink_29 : decode b_P_placeLink 29 = .ok (.getfield 31, 3) := by decide +kernel
theorem d_P_placeLink_32 : decode b_P_placeLink 32 = .ok (.iload 4, 2) := by decide +kernel
theorem d_P_placeLink_34 : decode b_P_placeLink 34 = .ok (.aload_n 0, 1) := by decide +kernel
theorem d_P_placeLink_35 : decode b_P_placeLink 35 = .ok (.getfield 15, 3) := by decide +kernel
theorem d_P_placeLink_38 : decode b_P_placeLink 38 = .ok (.imul, 1) := by decide +kernel
theorem d_P_placeLink_39 : decode b_P_placeLink 39 = .ok (.iload 5, 2) := by decide +kernel
theorem d_P_placeLink_41 : decode b_P_placeLink 41 = .ok (.iadd, 1) := by decide +kernel
theorem d_P_placeLink_42 : decode b_P_placeLink 42 = .ok (.iload_n 1, 1) := by decide +kernel
theorem d_P_placeLink_43 : decode b_P_placeLink 43 = .ok (.bipush 10, 2) := by decide +kernel
theorem d_P_placeLink_45 : decode b_P_placeLink 45 = .ok (.iload_n 2, 1) := by decide +kernel
theorem d_P_placeLink_46 : decode b_P_placeLink 46 = .ok (.imul, 1) := by decide +kernel
theorem d_P_placeLink_47 : decode b_P_placeLink 47 = .ok (.iadd, 1) := by decide +kernel
theorem d_P_placeLink_48 : decode b_P_placeLink 48 = .ok (.iload_n 3, 1) := by decide +kernel
theorem d_P_placeLink_49 : decode b_P_placeLink 49 = .ok (.iadd, 1) := by decide +kernel
theorem d_P_placeLink_50 : decode b_P_placeLink 50 = .ok (.iastore, 1) := by decide +kernel
theorem d_P_placeLink_51 : decode b_P_placeLink 51 = .ok (.aload_n 0, 1) := by decide +kernel
theorem d_P_placeLink_52 : decode b_P_placeLink 52 = .ok (.dup, 1) := by decide +kernel
theorem d_P_placeLink_53 : decode b_P_placeLink 53 = .ok (.getfield 38, 3) := by decide +kernel
theorem d_P_placeLink_56 : decode b_P_placeLink 56 = .ok (.iconst 1, 1) := by decide +kernel
theorem d_P_placeLink_57 : decode b_P_placeLink 57 = .ok (.iadd, 1) := by decide +kernel
theorem d_P_placeLink_58 : decode b_P_placeLink 58 = .ok (.putfield 38, 3) := by decide +kernel
theorem d_P_placeLink_61 : decode b_P_placeLink 61 = .ok (.iconst 1, 1) := by decide +kernel
theorem d_P_placeLink_62 : decode b_P_placeLink 62 = .ok (.ireturn, 1) := by decide +kernel
theorem d_P_placeLink_63 : decode b_P_placeLink 63 = .ok (.iinc 4 1, 3) := by decide +kernel
theorem d_P_placeLink_66 : decode b_P_placeLink 66 = .ok (.goto (-63), 3) := by decide +kernel
theorem d_P_placeLink_69 : decode b_P_placeLink 69 = .ok (.iconst 0, 1) := by decide +kernel
theorem d_P_placeLink_70 : decode b_P_placeLink 70 = .ok (.ireturn, 1) := by decide +kernel
theorem d_P_freeChannel_0 : decode b_P_freeChannel 0 = .ok (.iconst 0, 1) := by decide +kernel
theorem d_P_freeChannel_1 : decode b_P_freeChannel 1 = .ok (.istore 4, 2) := by decide +kernel
theorem d_P_freeChannel_3 : decode b_P_freeChannel 3 = .ok (.iload 4, 2) := by decide +kernel
theorem d_P_freeChannel_5 : decode b_P_freeChannel 5 = .ok (.aload_n 0, 1) := by decide +kernel
theorem d_P_freeChannel_6 : decode b_P_freeChannel 6 = .ok (.getfield 15, 3) := by decide +kernel
theorem d_P_freeChannel_9 : decode b_P_freeChannel 9 = .ok (.if_icmp .ge 56, 3) := by decide +kernel
theorem d_P_freeChannel_12 : decode b_P_freeChannel 12 = .ok (.aload_n 0, 1) := by decide +kernel
theorem d_P_freeChannel_13 : decode b_P_freeChannel 13 = .ok (.iload_n 1, 1) := by decide +kernel
theorem d_P_freeChannel_14 : decode b_P_freeChannel 14 = .ok (.iload 4, 2) := by decide +kernel
theorem d_P_freeChannel_16 : decode b_P_freeChannel 16 = .ok (.invokevirtual 76, 3) := by decide +kernel
theorem d_P_freeChannel_19 : decode b_P_freeChannel 19 = .ok (.istore 5, 2) := by decide +kernel
theorem d_P_freeChannel_21 : decode b_P_freeChannel 21 = .ok (.iload 5, 2) := by decide +kernel
theorem d_P_freeChannel_23 : decode b_P_freeChannel 23 = .ok (.ifCond .ne 6, 3) := by decide +kernel
theorem d_P_freeChannel_26 : decode b_P_freeChannel 26 = .ok (.iload 4, 2) := by decide +kernel
theorem d_P_freeChannel_28 : decode b_P_freeChannel 28 = .ok (.ireturn, 1) := by decide +kernel
theorem d_P_freeChannel_29 : decode b_P_freeChannel 29 = .ok (.iload 5, 2) := by decide +kernel
theorem d_P_freeChannel_31 : decode b_P_freeChannel 31 = .ok (.invokestatic 92, 3) := by decide +kernel
theorem d_P_freeChannel_34 : decode b_P_freeChannel 34 = .ok (.bipush 100, 2) := by decide +kernel
theorem d_P_freeChannel_36 : decode b_P_freeChannel 36 = .ok (.if_icmp .eq 21, 3) := by decide +kernel
theorem d_P_freeChannel_39 : decode b_P_freeChannel 39 = .ok (.iload 5, 2) := by decide +kernel
theorem d_P_freeChannel_41 : decode b_P_freeChannel 41 = .ok (.iload_n 2, 1) := by decide +kernel
theorem d_P_freeChannel_42 : decode b_P_freeChannel 42 = .ok (.invokestatic 96, 3) := by decide +kernel
theorem d_P_freeChannel_45 : decode b_P_freeChannel 45 = .ok (.ifCond .ne 12, 3) := by decide +kernel
theorem d_P_freeChannel_48 : decode b_P_freeChannel 48 = .ok (.iload 5, 2) := by decide +kernel
theorem d_P_freeChannel_50 : decode b_P_freeChannel 50 = .ok (.iload_n 3, 1) := by decide +kernel
theorem d_P_freeChannel_51 : decode b_P_freeChannel 51 = .ok (.invokestatic 96, 3) := by decide +kernel
theorem d_P_freeChannel_54 : decode b_P_freeChannel 54 = .ok (.ifCond .eq 5, 3) := by decide +kernel
theorem d_P_freeChannel_57 : decode b_P_freeChannel 57 = .ok (.iconst (-1), 1) := by decide +kernel
theorem d_P_freeChannel_58 : decode b_P_freeChannel 58 = .ok (.ireturn, 1) := by decide +kernel
theorem d_P_freeChannel_59 : decode b_P_freeChannel 59 = .ok (.iinc 4 1, 3) := by decide +kernel
theorem d_P_freeChannel_62 : decode b_P_freeChannel 62 = .ok (.goto (-59), 3) := by decide +kernel
theorem d_P_freeChannel_65 : decode b_P_freeChannel 65 = .ok (.iconst (-1), 1) := by decide +kernel
theorem d_P_freeChannel_66 : decode b_P_freeChannel 66 = .ok (.ireturn, 1) := by decide +kernel
theorem d_P_touches_0 : decode b_P_touches 0 = .ok (.iload_n 0, 1) := by decide +kernel
theorem d_P_touches_1 : decode b_P_touches 1 = .ok (.invokestatic 100, 3) := by decide +kernel
theorem d_P_touches_4 : decode b_P_touches 4 = .ok (.iload_n 1, 1) := by decide +kernel
theorem d_P_touches_5 : decode b_P_touches 5 = .ok (.if_icmp .eq 11, 3) := by decide +kernel
theorem d_P_touches_8 : decode b_P_touches 8 = .ok (.iload_n 0, 1) := by decide +kernel
theorem d_P_touches_9 : decode b_P_touches 9 = .ok (.invokestatic 103, 3) := by decide +kernel
theorem d_P_touches_12 : decode b_P_touches 12 = .ok (.iload_n 1, 1) := by decide +kernel
theorem d_P_touches_13 : decode b_P_touches 13 = .ok (.if_icmp .ne 7, 3) := by decide +kernel
theorem d_P_touches_16 : decode b_P_touches 16 = .ok (.iconst 1, 1) := by decide +kernel
theorem d_P_touches_17 : decode b_P_touches 17 = .ok (.goto 4, 3) := by decide +kernel
theorem d_P_touches_20 : decode b_P_touches 20 = .ok (.iconst 0, 1) := by decide +kernel
theorem d_P_touches_21 : decode b_P_touches 21 = .ok (.ireturn, 1) := by decide +kernel
theorem d_L_cell_0 : decode b_L_cell 0 = .ok (.iload_n 1, 1) := by decide +kernel
theorem d_L_cell_1 : decode b_L_cell 1 = .ok (.aload_n 0, 1) := by decide +kernel
theorem d_L_cell_2 : decode b_L_cell 2 = .ok (.arraylength, 1) := by decide +kernel
theorem d_L_cell_3 : decode b_L_cell 3 = .ok (.if_icmp .ge 9, 3) := by decide +kernel
theorem d_L_cell_6 : decode b_L_cell 6 = .ok (.aload_n 0, 1) := by decide +kernel
theorem d_L_cell_7 : decode b_L_cell 7 = .ok (.iload_n 1, 1) := by decide +kernel
theorem d_L_cell_8 : decode b_L_cell 8 = .ok (.iaload, 1) := by decide +kernel
theorem d_L_cell_9 : decode b_L_cell 9 = .ok (.goto 4, 3) := by decide +kernel
theorem d_L_cell_12 : decode b_L_cell 12 = .ok (.iconst 0, 1) := by decide +kernel
theorem d_L_cell_13 : decode b_L_cell 13 = .ok (.ireturn, 1) := by decide +kernel
theorem d_L_law_0 : decode b_L_law 0 = .ok (.new 7, 3) := by decide +kernel
theorem d_L_law_3 : decode b_L_law 3 = .ok (.dup, 1) := by decide +kernel
theorem d_L_law_4 : decode b_L_law 4 = .ok (.aload_n 0, 1) := by decide +kernel
theorem d_L_law_5 : decode b_L_law 5 = .ok (.iconst 0, 1) := by decide +kernel
theorem d_L_law_6 : decode b_L_law 6 = .ok (.invokestatic 9, 3) := by decide +kernel
theorem d_L_law_9 : decode b_L_law 9 = .ok (.aload_n 0, 1) := by decide +kernel
theorem d_L_law_10 : decode b_L_law 10 = .ok (.iconst 1, 1) := by decide +kernel
theorem d_L_law_11 : decode b_L_law 11 = .ok (.invokestatic 9, 3) := by decide +kernel
theorem d_L_law_14 : decode b_L_law 14 = .ok (.aload_n 0, 1) := by decide +kernel
theorem d_L_law_15 : decode b_L_law 15 = .ok (.iconst 2, 1) := by decide +kernel
theorem d_L_law_16 : decode b_L_law 16 = .ok (.invokestatic 9, 3) := by decide +kernel
theorem d_L_law_19 : decode b_L_law 19 = .ok (.invokespecial 15, 3) := by decide +kernel
theorem d_L_law_22 : decode b_L_law 22 = .ok (.astore_n 1, 1) := by decide +kernel
theorem d_L_law_23 : decode b_L_law 23 = .ok (.new 18, 3) := by decide +kernel
theorem d_L_law_26 : decode b_L_law 26 = .ok (.dup, 1) := by decide +kernel
theorem d_L_law_27 : decode b_L_law 27 = .ok (.aload_n 0, 1) := by decide +kernel
theorem d_L_law_28 : decode b_L_law 28 = .ok (.iconst 0, 1) := by decide +kernel
theorem d_L_law_29 : decode b_L_law 29 = .ok (.invokestatic 9, 3) := by decide +kernel
theorem d_L_law_32 : decode b_L_law 32 = .ok (.aload_n 0, 1) := by decide +kernel
theorem d_L_law_33 : decode b_L_law 33 = .ok (.iconst 1, 1) := by decide +kernel
theorem d_L_law_34 : decode b_L_law 34 = .ok (.invokestatic 9, 3) := by decide +kernel
theorem d_L_law_37 : decode b_L_law 37 = .ok (.aload_n 0, 1) := by decide +kernel
theorem d_L_law_38 : decode b_L_law 38 = .ok (.iconst 2, 1) := by decide +kernel
theorem d_L_law_39 : decode b_L_law 39 = .ok (.invokestatic 9, 3) := by decide +kernel
theorem d_L_law_42 : decode b_L_law 42 = .ok (.invokespecial 20, 3) := by decide +kernel
theorem d_L_law_45 : decode b_L_law 45 = .ok (.astore_n 2, 1) := by decide +kernel
theorem d_L_law_46 : decode b_L_law 46 = .ok (.iconst 3, 1) := by decide +kernel
theorem d_L_law_47 : decode b_L_law 47 = .ok (.istore_n 3, 1) := by decide +kernel
theorem d_L_law_48 : decode b_L_law 48 = .ok (.iload_n 3, 1) := by decide +kernel
theorem d_L_law_49 : decode b_L_law 49 = .ok (.aload_n 0, 1) := by decide +kernel
theorem d_L_law_50 : decode b_L_law 50 = .ok (.arraylength, 1) := by decide +kernel
theorem d_L_law_51 : decode b_L_law 51 = .ok (.bipush 6, 2) := by decide +kernel
theorem d_L_law_53 : decode b_L_law 53 = .ok (.isub, 1) := by decide +kernel
theorem d_L_law_54 : decode b_L_law 54 = .ok (.if_icmp .gt 727, 3) := by decide +kernel
theorem d_L_law_57 : decode b_L_law 57 = .ok (.aload_n 0, 1) := by decide +kernel
theorem d_L_law_58 : decode b_L_law 58 = .ok (.iload_n 3, 1) := by decide +kernel
theorem d_L_law_59 : decode b_L_law 59 = .ok (.iaload, 1) := by decide +kernel
theorem d_L_law_60 : decode b_L_law 60 = .ok (.bipush 31, 2) := by decide +kernel
theorem d_L_law_62 : decode b_L_law 62 = .ok (.iand, 1) := by decide +kernel
theorem d_L_law_63 : decode b_L_law 63 = .ok (.tableswitch 712 0 18 #[89, 148, 161, 184, 207, 240, 343, 376, 429, 452, 475, 508, 541, 564, 587, 620, 653, 676, 699], 89) := by decide +kernel
theorem d_L_law_152 : decode b_L_law 152 = .ok (.aload_n 1, 1) := by decide +kernel
theorem d_L_law_153 : decode b_L_law 153 = .ok (.aload_n 0, 1) := by decide +kernel
theorem d_L_law_154 : decode b_L_law 154 = .ok (.iload_n 3, 1) := by decide +kernel
theorem d_L_law_155 : decode b_L_law 155 = .ok (.iconst 1, 1) := by decide +kernel
theorem d_L_law_156 : decode b_L_law 156 = .ok (.iadd, 1) := by decide +kernel
theorem d_L_law_157 : decode b_L_law 157 = .ok (.iaload, 1) := by decide +kernel
theorem d_L_law_158 : decode b_L_law 158 = .ok (.aload_n 0, 1) := by decide +kernel
theorem d_L_law_159 : decode b_L_law 159 = .ok (.iload_n 3, 1) := by decide +kernel
theorem d_L_law_160 : decode b_L_law 160 = .ok (.iconst 2, 1) := by decide +kernel
theorem d_L_law_161 : decode b_L_law 161 = .ok (.iadd, 1) := by decide +kernel
theorem d_L_law_162 : decode b_L_law 162 = .ok (.iaload, 1) := by decide +kernel
theorem d_L_law_163 : decode b_L_law 163 = .ok (.aload_n 0, 1) := by decide +kernel
theorem d_L_law_164 : decode b_L_law 164 = .ok (.iload_n 3, 1) := by decide +kernel
theorem d_L_law_165 : decode b_L_law 165 = .ok (.iconst 3, 1) := by decide +kernel
theorem d_L_law_166 : decode b_L_law 166 = .ok (.iadd, 1) := by decide +kernel
theorem d_L_law_167 : decode b_L_law 167 = .ok (.iaload, 1) := by decide +kernel
theorem d_L_law_168 : decode b_L_law 168 = .ok (.ifCond .eq 7, 3) := by decide +kernel
theorem d_L_law_171 : decode b_L_law 171 = .ok (.iconst 1, 1) := by decide +kernel
theorem d_L_law_172 : decode b_L_law 172 = .ok (.goto 4, 3) := by decide +kernel
theorem d_L_law_175 : decode b_L_law 175 = .ok (.iconst 0, 1) := by decide +kernel
theorem d_L_law_176 : decode b_L_law 176 = .ok (.invokevirtual 21, 3) := by decide +kernel
theorem d_L_law_179 : decode b_L_law 179 = .ok (.aload_n 2, 1) := by decide +kernel
theorem d_L_law_180 : decode b_L_law 180 = .ok (.aload_n 0, 1) := by decide +kernel
theorem d_L_law_181 : decode b_L_law 181 = .ok (.iload_n 3, 1) := by decide +kernel
theorem d_L_law_182 : decode b_L_law 182 = .ok (.iconst 1, 1) := by decide +kernel
theorem d_L_law_183 : decode b_L_law 183 = .ok (.iadd, 1) := by decide +kernel
theorem d_L_law_184 : decode b_L_law 184 = .ok (.iaload, 1) := by decide +kernel
theorem d_L_law_185 : decode b_L_law 185 = .ok (.aload_n 0, 1) := by decide +kernel
theorem d_L_law_186 : decode b_L_law 186 = .ok (.iload_n 3, 1) := by decide +kernel
theorem d_L_law_187 : decode b_L_law 187 = .ok (.iconst 2, 1) := by decide +kernel
theorem d_L_law_188 : decode b_L_law 188 = .ok (.iadd, 1) := by decide +kernel
theorem d_L_law_189 : decode b_L_law 189 = .ok (.iaload, 1) := by decide +kernel
theorem d_L_law_190 : decode b_L_law 190 = .ok (.aload_n 0, 1) := by decide +kernel
theorem d_L_law_191 : decode b_L_law 191 = .ok (.iload_n 3, 1) := by decide +kernel
theorem d_L_law_192 : decode b_L_law 192 = .ok (.iconst 3, 1) := by decide +kernel
theorem d_L_law_193 : decode b_L_law 193 = .ok (.iadd, 1) := by decide +kernel
theorem d_L_law_194 : decode b_L_law 194 = .ok (.iaload, 1) := by decide +kernel
theorem d_L_law_195 : decode b_L_law 195 = .ok (.ifCond .eq 7, 3) := by decide +kernel
theorem d_L_law_198 : decode b_L_law 198 = .ok (.iconst 1, 1) := by decide +kernel
theorem d_L_law_199 : decode b_L_law 199 = .ok (.goto 4, 3) := by decide +kernel
theorem d_L_law_202 : decode b_L_law 202 = .ok (.iconst 0, 1) := by decide +kernel
theorem d_L_law_203 : decode b_L_law 203 = .ok (.invokevirtual 25, 3) := by decide +kernel
theorem d_L_law_206 : decode b_L_law 206 = .ok (.if_icmp .eq 569, 3) := by decide +kernel
theorem d_L_law_209 : decode b_L_law 209 = .ok (.iconst 0, 1) := by decide +kernel
theorem d_L_law_210 : decode b_L_law 210 = .ok (.ireturn, 1) := by decide +kernel
theorem d_L_law_211 : decode b_L_law 211 = .ok (.aload_n 1, 1) := by decide +kernel
theorem d_L_law_212 : decode b_L_law 212 = .ok (.invokevirtual 26, 3) := by decide +kernel
theorem d_L_law_215 : decode b_L_law 215 = .ok (.aload_n 2, 1) := by decide +kernel
theorem d_L_law_216 : decode b_L_law 216 = .ok (.invokevirtual 30, 3) := by decide +kernel
theorem d_L_law_219 : decode b_L_law 219 = .ok (.if_icmp .eq 556, 3) := by decide +kernel
theorem d_L_law_222 : decode b_L_law 222 = .ok (.iconst 0, 1) := by decide +kernel
theorem d_L_law_223 : decode b_L_law 223 = .ok (.ireturn, 1) := by decide +kernel
theorem d_L_law_224 : decode b_L_law 224 = .ok (.aload_n 1, 1) := by decide +kernel
theorem d_L_law_225 : decode b_L_law 225 = .ok (.aload_n 0, 1) := by decide +kernel
theorem d_L_law_226 : decode b_L_law 226 = .ok (.iload_n 3, 1) := by decide +kernel
theorem d_L_law_227 : decode b_L_law 227 = .ok (.iconst 1, 1) := by decide +kernel
theorem d_L_law_228 : decode b_L_law 228 = .ok (.iadd, 1) := by decide +kernel
theorem d_L_law_229 : decode b_L_law 229 = .ok (.iaload, 1) := by decide +kernel
theorem d_L_law_230 : decode b_L_law 230 = .ok (.invokevirtual 31, 3) := by decide +kernel
theorem d_L_law_233 : decode b_L_law 233 = .ok (.aload_n 2, 1) := by decide +kernel
theorem d_L_law_234 : decode b_L_law 234 = .ok (.aload_n 0, 1) := by decide +kernel
theorem d_L_law_235 : decode b_L_law 235 = .ok (.iload_n 3, 1) := by decide +kernel
theorem d_L_law_236 : decode b_L_law 236 = .ok (.iconst 1, 1) := by decide +kernel
theorem d_L_law_237 : decode b_L_law 237 = .ok (.iadd, 1) := by decide +kernel
theorem d_L_law_238 : decode b_L_law 238 = .ok (.iaload, 1) := by decide +kernel
theorem d_L_law_239 : decode b_L_law 239 = .ok (.invokevirtual 35, 3) := by decide +kernel
theorem d_L_law_242 : decode b_L_law 242 = .ok (.if_icmp .eq 533, 3) := by decide +kernel
theorem d_L_law_245 : decode b_L_law 245 = .ok (.iconst 0, 1) := by decide +kernel
theorem d_L_law_246 : decode b_L_law 246 = .ok (.ireturn, 1) := by decide +kernel
theorem d_L_law_247 : decode b_L_law 247 = .ok (.aload_n 1, 1) := by decide +kernel
theorem d_L_law_248 : decode b_L_law 248 = .ok (.aload_n 0, 1) := by decide +kernel
theorem d_L_law_249 : decode b_L_law 249 = .ok (.iload_n 3, 1) := by decide +kernel
theorem d_L_law_250 : decode b_L_law 250 = .ok (.iconst 1, 1) := by decide +kernel
theorem d_L_law_251 : decode b_L_law 251 = .ok (.iadd, 1) := by decide +kernel
theorem d_L_law_252 : decode b_L_law 252 = .ok (.iaload, 1) := by decide +kernel
theorem d_L_law_253 : decode b_L_law 253 = .ok (.invokevirtual 36, 3) := by decide +kernel
theorem d_L_law_256 : decode b_L_law 256 = .ok (.aload_n 2, 1) := by decide +kernel
theorem d_L_law_257 : decode b_L_law 257 = .ok (.aload_n 0, 1) := by decide +kernel
theorem d_L_law_258 : decode b_L_law 258 = .ok (.iload_n 3, 1) := by decide +kernel
theorem d_L_law_259 : decode b_L_law 259 = .ok (.iconst 1, 1) := by decide +kernel
theorem d_L_law_260 : decode b_L_law 260 = .ok (.iadd, 1) := by decide +kernel
theorem d_L_law_261 : decode b_L_law 261 = .ok (.iaload, 1) := by decide +kernel
theorem d_L_law_262 : decode b_L_law 262 = .ok (.invokevirtual 39, 3) := by decide +kernel
theorem d_L_law_265 : decode b_L_law 265 = .ok (.if_icmp .eq 510, 3) := by decide +kernel
theorem d_L_law_268 : decode b_L_law 268 = .ok (.iconst 0, 1) := by decide +kernel
theorem d_L_law_269 : decode b_L_law 269 = .ok (.ireturn, 1) := by decide +kernel
theorem d_L_law_270 : decode b_L_law 270 = .ok (.aload_n 1, 1) := by decide +kernel
theorem d_L_law_271 : decode b_L_law 271 = .ok (.aload_n 0, 1) := by decide +kernel
theorem d_L_law_272 : decode b_L_law 272 = .ok (.iload_n 3, 1) := by decide +kernel
theorem d_L_law_273 : decode b_L_law 273 = .ok (.iconst 1, 1) := by decide +kernel
theorem d_L_law_274 : decode b_L_law 274 = .ok (.iadd, 1) := by decide +kernel
theorem d_L_law_275 : decode b_L_law 275 = .ok (.iaload, 1) := by decide +kernel
theorem d_L_law_276 : decode b_L_law 276 = .ok (.aload_n 0, 1) := by decide +kernel
theorem d_L_law_277 : decode b_L_law 277 = .ok (.iload_n 3, 1) := by decide +kernel
theorem d_L_law_278 : decode b_L_law 278 = .ok (.iconst 2, 1) := by decide +kernel
theorem d_L_law_279 : decode b_L_law 279 = .ok (.iadd, 1) := by decide +kernel
theorem d_L_law_280 : decode b_L_law 280 = .ok (.iaload, 1) := by decide +kernel
theorem d_L_law_281 : decode b_L_law 281 = .ok (.invokevirtual 40, 3) := by decide +kernel
theorem d_L_law_284 : decode b_L_law 284 = .ok (.aload_n 2, 1) := by decide +kernel
theorem d_L_law_285 : decode b_L_law 285 = .ok (.aload_n 0, 1) := by decide +kernel
theorem d_L_law_286 : decode b_L_law 286 = .ok (.iload_n 3, 1) := by decide +kernel
theorem d_L_law_287 : decode b_L_law 287 = .ok (.iconst 1, 1) := by decide +kernel
theorem d_L_law_288 : decode b_L_law 288 = .ok (.iadd, 1) := by decide +kernel
theorem d_L_law_289 : decode b_L_law 289 = .ok (.iaload, 1) := by decide +kernel
theorem d_L_law_290 : decode b_L_law 290 = .ok (.aload_n 0, 1) := by decide +kernel
theorem d_L_law_291 : decode b_L_law 291 = .ok (.iload_n 3, 1) := by decide +kernel
theorem d_L_law_292 : decode b_L_law 292 = .ok (.iconst 2, 1) := by decide +kernel
theorem d_L_law_293 : decode b_L_law 293 = .ok (.iadd, 1) := by decide +kernel
theorem d_L_law_294 : decode b_L_law 294 = .ok (.iaload, 1) := by decide +kernel
theorem d_L_law_295 : decode b_L_law 295 = .ok (.invokevirtual 44, 3) := by decide +kernel
theorem d_L_law_298 : decode b_L_law 298 = .ok (.if_icmp .eq 477, 3) := by decide +kernel
theorem d_L_law_301 : decode b_L_law 301 = .ok (.iconst 0, 1) := by decide +kernel
theorem d_L_law_302 : decode b_L_law 302 = .ok (.ireturn, 1) := by decide +kernel
theorem d_L_law_303 : decode b_L_law 303 = .ok (.aload_n 1, 1) := by decide +kernel
theorem d_L_law_304 : decode b_L_law 304 = .ok (.aload_n 0, 1) := by decide +kernel
theorem d_L_law_305 : decode b_L_law 305 = .ok (.iload_n 3, 1) := by decide +kernel
theorem d_L_law_306 : decode b_L_law 306 = .ok (.iconst 1, 1) := by decide +kernel
theorem d_L_law_307 : decode b_L_law 307 = .ok (.iadd, 1) := by decide +kernel
theorem d_L_law_308 : decode b_L_law 308 = .ok (.iaload, 1) := by decide +kernel
theorem d_L_law_309 : decode b_L_law 309 = .ok (.aload_n 0, 1) := by decide +kernel
theorem d_L_law_310 : decode b_L_law 310 = .ok (.iload_n 3, 1) := by decide +kernel
theorem d_L_law_311 : decode b_L_law 311 = .ok (.iconst 2, 1) := by decide +kernel
theorem d_L_law_312 : decode b_L_law 312 = .ok (.iadd, 1) := by decide +kernel
theorem d_L_law_313 : decode b_L_law 313 = .ok (.iaload, 1) := by decide +kernel
theorem d_L_law_314 : decode b_L_law 314 = .ok (.i2l, 1) := by decide +kernel
theorem d_L_law_315 : decode b_L_law 315 = .ok (.bipush 32, 2) := by decide +kernel
theorem d_L_law_317 : decode b_L_law 317 = .ok (.lshl, 1) := by decide +kernel
theorem d_L_law_318 : decode b_L_law 318 = .ok (.aload_n 0, 1) := by decide +kernel
theorem d_L_law_319 : decode b_L_law 319 = .ok (.iload_n 3, 1) := by decide +kernel
theorem d_L_law_320 : decode b_L_law 320 = .ok (.iconst 3, 1) := by decide +kernel
theorem d_L_law_321 : decode b_L_law 321 = .ok (.iadd, 1) := by decide +kernel
theorem d_L_law_322 : decode b_L_law 322 = .ok (.iaload, 1) := by decide +kernel
theorem d_L_law_323 : decode b_L_law 323 = .ok (.i2l, 1) := by decide +kernel
theorem d_L_law_324 : decode b_L_law 324 = .ok (.ldc2_w 45, 3) := by decide +kernel
theorem d_L_law_327 : decode b_L_law 327 = .ok (.land, 1) := by decide +kernel
theorem d_L_law_328 : decode b_L_law 328 = .ok (.lor, 1) := by decide +kernel
theorem d_L_law_329 : decode b_L_law 329 = .ok (.aload_n 0, 1) := by decide +kernel
theorem d_L_law_330 : decode b_L_law 330 = .ok (.iload_n 3, 1) := by decide +kernel
theorem d_L_law_331 : decode b_L_law 331 = .ok (.iconst 4, 1) := by decide +kernel
theorem d_L_law_332 : decode b_L_law 332 = .ok (.iadd, 1) := by decide +kernel
theorem d_L_law_333 : decode b_L_law 333 = .ok (.iaload, 1) := by decide +kernel
theorem d_L_law_334 : decode b_L_law 334 = .ok (.i2l, 1) := by decide +kernel
theorem d_L_law_335 : decode b_L_law 335 = .ok (.bipush 32, 2) := by decide +kernel
theorem d_L_law_337 : decode b_L_law 337 = .ok (.lshl, 1) := by decide +kernel
theorem d_L_law_338 : decode b_L_law 338 = .ok (.aload_n 0, 1) := by decide +kernel
theorem d_L_law_339 : decode b_L_law 339 = .ok (.iload_n 3, 1) := by decide +kernel
theorem d_L_law_340 : decode b_L_law 340 = .ok (.iconst 5, 1) := by decide +kernel
theorem d_L_law_341 : decode b_L_law 341 = .ok (.iadd, 1) := by decide +kernel
theorem d_L_law_342 : decode b_L_law 342 = .ok (.iaload, 1) := by decide +kernel
theorem d_L_law_343 : decode b_L_law 343 = .ok (.i2l, 1) := by decide +kernel
theorem d_L_law_344 : decode b_L_law 344 = .ok (.ldc2_w 45, 3) := by decide +kernel
theorem d_L_law_347 : decode b_L_law 347 = .ok (.land, 1) := by decide +kernel
theorem d_L_law_348 : decode b_L_law 348 = .ok (.lor, 1) := by decide +kernel
theorem d_L_law_349 : decode b_L_law 349 = .ok (.invokevirtual 47, 3) := by decide +kernel
theorem d_L_law_352 : decode b_L_law 352 = .ok (.aload_n 2, 1) := by decide +kernel
theorem d_L_law_353 : decode b_L_law 353 = .ok (.aload_n 0, 1) := by decide +kernel
theorem d_L_law_354 : decode b_L_law 354 = .ok (.iload_n 3, 1) := by decide +kernel
theorem d_L_law_355 : decode b_L_law 355 = .ok (.iconst 1, 1) := by decide +kernel
theorem d_L_law_356 : decode b_L_law 356 = .ok (.iadd, 1) := by decide +kernel
theorem d_L_law_357 : decode b_L_law 357 = .ok (.iaload, 1) := by decide +kernel
theorem d_L_law_358 : decode b_L_law 358 = .ok (.aload_n 0, 1) := by decide +kernel
theorem d_L_law_359 : decode b_L_law 359 = .ok (.iload_n 3, 1) := by decide +kernel
theorem d_L_law_360 : decode b_L_law 360 = .ok (.iconst 2, 1) := by decide +kernel
theorem d_L_law_361 : decode b_L_law 361 = .ok (.iadd, 1) := by decide +kernel
theorem d_L_law_362 : decode b_L_law 362 = .ok (.iaload, 1) := by decide +kernel
theorem d_L_law_363 : decode b_L_law 363 = .ok (.i2l, 1) := by decide +kernel
theorem d_L_law_364 : decode b_L_law 364 = .ok (.bipush 32, 2) := by decide +kernel
theorem d_L_law_366 : decode b_L_law 366 = .ok (.lshl, 1) := by decide +kernel
theorem d_L_law_367 : decode b_L_law 367 = .ok (.aload_n 0, 1) := by decide +kernel
theorem d_L_law_368 : decode b_L_law 368 = .ok (.iload_n 3, 1) := by decide +kernel
theorem d_L_law_369 : decode b_L_law 369 = .ok (.iconst 3, 1) := by decide +kernel
theorem d_L_law_370 : decode b_L_law 370 = .ok (.iadd, 1) := by decide +kernel
theorem d_L_law_371 : decode b_L_law 371 = .ok (.iaload, 1) := by decide +kernel
theorem d_L_law_372 : decode b_L_law 372 = .ok (.i2l, 1) := by decide +kernel
theorem d_L_law_373 : decode b_L_law 373 = .ok (.ldc2_w 45, 3) := by decide +kernel
theorem d_L_law_376 : decode b_L_law 376 = .ok (.land, 1) := by decide +kernel
theorem d_L_law_377 : decode b_L_law 377 = .ok (.lor, 1) := by decide +kernel
theorem d_L_law_378 : decode b_L_law 378 = .ok (.aload_n 0, 1) := by decide +kernel
theorem d_L_law_379 : decode b_L_law 379 = .ok (.iload_n 3, 1) := by decide +kernel
theorem d_L_law_380 : decode b_L_law 380 = .ok (.iconst 4, 1) := by decide +kernel
theorem d_L_law_381 : decode b_L_law 381 = .ok (.iadd, 1) := by decide +kernel
theorem d_L_law_382 : decode b_L_law 382 = .ok (.iaload, 1) := by decide +kernel
theorem d_L_law_383 : decode b_L_law 383 = .ok (.i2l, 1) := by decide +kernel
theorem d_L_law_384 : decode b_L_law 384 = .ok (.bipush 32, 2) := by decide +kernel
theorem d_L_law_386 : decode b_L_law 386 = .ok (.lshl, 1) := by decide +kernel
theorem d_L_law_387 : decode b_L_law 387 = .ok (.aload_n 0, 1) := by decide +kernel
theorem d_L_law_388 : decode b_L_law 388 = .ok (.iload_n 3, 1) := by decide +kernel
theorem d_L_law_389 : decode b_L_law 389 = .ok (.iconst 5, 1) := by decide +kernel
theorem d_L_law_390 : decode b_L_law 390 = .ok (.iadd, 1) := by decide +kernel
theorem d_L_law_391 : decode b_L_law 391 = .ok (.iaload, 1) := by decide +kernel
theorem d_L_law_392 : decode b_L_law 392 = .ok (.i2l, 1) := by decide +kernel
theorem d_L_law_393 : decode b_L_law 393 = .ok (.ldc2_w 45, 3) := by decide +kernel
theorem d_L_law_396 : decode b_L_law 396 = .ok (.land, 1) := by decide +kernel
theorem d_L_law_397 : decode b_L_law 397 = .ok (.lor, 1) := by decide +kernel
theorem d_L_law_398 : decode b_L_law 398 = .ok (.invokevirtual 51, 3) := by decide +kernel
theorem d_L_law_401 : decode b_L_law 401 = .ok (.if_icmp .eq 374, 3) := by decide +kernel
theorem d_L_law_404 : decode b_L_law 404 = .ok (.iconst 0, 1) := by decide +kernel
theorem d_L_law_405 : decode b_L_law 405 = .ok (.ireturn, 1) := by decide +kernel
theorem d_L_law_406 : decode b_L_law 406 = .ok (.aload_n 1, 1) := by decide +kernel
theorem d_L_law_407 : decode b_L_law 407 = .ok (.aload_n 0, 1) := by decide +kernel
theorem d_L_law_408 : decode b_L_law 408 = .ok (.iload_n 3, 1) := by decide +kernel
theorem d_L_law_409 : decode b_L_law 409 = .ok (.iconst 1, 1) := by decide +kernel
theorem d_L_law_410 : decode b_L_law 410 = .ok (.iadd, 1) := by decide +kernel
theorem d_L_law_411 : decode b_L_law 411 = .ok (.iaload, 1) := by decide +kernel
theorem d_L_law_412 : decode b_L_law 412 = .ok (.aload_n 0, 1) := by decide +kernel
theorem d_L_law_413 : decode b_L_law 413 = .ok (.iload_n 3, 1) := by decide +kernel
theorem d_L_law_414 : decode b_L_law 414 = .ok (.iconst 2, 1) := by decide +kernel
theorem d_L_law_415 : decode b_L_law 415 = .ok (.iadd, 1) := by decide +kernel
theorem d_L_law_416 : decode b_L_law 416 = .ok (.iaload, 1) := by decide +kernel
theorem d_L_law_417 : decode b_L_law 417 = .ok (.invokevirtual 52, 3) := by decide +kernel
theorem d_L_law_420 : decode b_L_law 420 = .ok (.aload_n 2, 1) := by decide +kernel
theorem d_L_law_421 : decode b_L_law 421 = .ok (.aload_n 0, 1) := by decide +kernel
theorem d_L_law_422 : decode b_L_law 422 = .ok (.iload_n 3, 1) := by decide +kernel
theorem d_L_law_423 : decode b_L_law 423 = .ok (.iconst 1, 1) := by decide +kernel
theorem d_L_law_424 : decode b_L_law 424 = .ok (.iadd, 1) := by decide +kernel
theorem d_L_law_425 : decode b_L_law 425 = .ok (.iaload, 1) := by decide +kernel
theorem d_L_law_426 : decode b_L_law 426 = .ok (.aload_n 0, 1) := by decide +kernel
theorem d_L_law_427 : decode b_L_law 427 = .ok (.iload_n 3, 1) := by decide +kernel
theorem d_L_law_428 : decode b_L_law 428 = .ok (.iconst 2, 1) := by decide +kernel
theorem d_L_law_429 : decode b_L_law 429 = .ok (.iadd, 1) := by decide +kernel
theorem d_L_law_430 : decode b_L_law 430 = .ok (.iaload, 1) := by decide +kernel
theorem d_L_law_431 : decode b_L_law 431 = .ok (.invokevirtual 56, 3) := by decide +kernel
theorem d_L_law_434 : decode b_L_law 434 = .ok (.if_icmp .eq 341, 3) := by decide +kernel
theorem d_L_law_437 : decode b_L_law 437 = .ok (.iconst 0, 1) := by decide +kernel
theorem d_L_law_438 : decode b_L_law 438 = .ok (.ireturn, 1) := by decide +kernel
theorem d_L_law_439 : decode b_L_law 439 = .ok (.aload_n 1, 1) := by decide +kernel
theorem d_L_law_440 : decode b_L_law 440 = .ok (.aload_n 0, 1) := by decide +kernel
theorem d_L_law_441 : decode b_L_law 441 = .ok (.iload_n 3, 1) := by decide +kernel
theorem d_L_law_442 : decode b_L_law 442 = .ok (.iconst 1, 1) := by decide +kernel
theorem d_L_law_443 : decode b_L_law 443 = .ok (.iadd, 1) := by decide +kernel
theorem d_L_law_444 : decode b_L_law 444 = .ok (.iaload, 1) := by decide +kernel
theorem d_L_law_445 : decode b_L_law 445 = .ok (.aload_n 0, 1) := by decide +kernel
theorem d_L_law_446 : decode b_L_law 446 = .ok (.iload_n 3, 1) := by decide +kernel
theorem d_L_law_447 : decode b_L_law 447 = .ok (.iconst 2, 1) := by decide +kernel
theorem d_L_law_448 : decode b_L_law 448 = .ok (.iadd, 1) := by decide +kernel
theorem d_L_law_449 : decode b_L_law 449 = .ok (.iaload, 1) := by decide +kernel
theorem d_L_law_450 : decode b_L_law 450 = .ok (.aload_n 0, 1) := by decide +kernel
theorem d_L_law_451 : decode b_L_law 451 = .ok (.iload_n 3, 1) := by decide +kernel
theorem d_L_law_452 : decode b_L_law 452 = .ok (.iconst 3, 1) := by decide +kernel
theorem d_L_law_453 : decode b_L_law 453 = .ok (.iadd, 1) := by decide +kernel
theorem d_L_law_454 : decode b_L_law 454 = .ok (.iaload, 1) := by decide +kernel
theorem d_L_law_455 : decode b_L_law 455 = .ok (.aload_n 0, 1) := by decide +kernel
theorem d_L_law_456 : decode b_L_law 456 = .ok (.iload_n 3, 1) := by decide +kernel
theorem d_L_law_457 : decode b_L_law 457 = .ok (.iconst 4, 1) := by decide +kernel
theorem d_L_law_458 : decode b_L_law 458 = .ok (.iadd, 1) := by decide +kernel
theorem d_L_law_459 : decode b_L_law 459 = .ok (.iaload, 1) := by decide +kernel
theorem d_L_law_460 : decode b_L_law 460 = .ok (.invokevirtual 57, 3) := by decide +kernel
theorem d_L_law_463 : decode b_L_law 463 = .ok (.aload_n 2, 1) := by decide +kernel
theorem d_L_law_464 : decode b_L_law 464 = .ok (.aload_n 0, 1) := by decide +kernel
theorem d_L_law_465 : decode b_L_law 465 = .ok (.iload_n 3, 1) := by decide +kernel
theorem d_L_law_466 : decode b_L_law 466 = .ok (.iconst 1, 1) := by decide +kernel
theorem d_L_law_467 : decode b_L_law 467 = .ok (.iadd, 1) := by decide +kernel
theorem d_L_law_468 : decode b_L_law 468 = .ok (.iaload, 1) := by decide +kernel
theorem d_L_law_469 : decode b_L_law 469 = .ok (.aload_n 0, 1) := by decide +kernel
theorem d_L_law_470 : decode b_L_law 470 = .ok (.iload_n 3, 1) := by decide +kernel
theorem d_L_law_471 : decode b_L_law 471 = .ok (.iconst 2, 1) := by decide +kernel
theorem d_L_law_472 : decode b_L_law 472 = .ok (.iadd, 1) := by decide +kernel
theorem d_L_law_473 : decode b_L_law 473 = .ok (.iaload, 1) := by decide +kernel
theorem d_L_law_474 : decode b_L_law 474 = .ok (.aload_n 0, 1) := by decide +kernel
theorem d_L_law_475 : decode b_L_law 475 = .ok (.iload_n 3, 1) := by decide +kernel
theorem d_L_law_476 : decode b_L_law 476 = .ok (.iconst 3, 1) := by decide +kernel
theorem d_L_law_477 : decode b_L_law 477 = .ok (.iadd, 1) := by decide +kernel
theorem d_L_law_478 : decode b_L_law 478 = .ok (.iaload, 1) := by decide +kernel
theorem d_L_law_479 : decode b_L_law 479 = .ok (.aload_n 0, 1) := by decide +kernel
theorem d_L_law_480 : decode b_L_law 480 = .ok (.iload_n 3, 1) := by decide +kernel
theorem d_L_law_481 : decode b_L_law 481 = .ok (.iconst 4, 1) := by decide +kernel
theorem d_L_law_482 : decode b_L_law 482 = .ok (.iadd, 1) := by decide +kernel
theorem d_L_law_483 : decode b_L_law 483 = .ok (.iaload, 1) := by decide +kernel
theorem d_L_law_484 : decode b_L_law 484 = .ok (.invokevirtual 61, 3) := by decide +kernel
theorem d_L_law_487 : decode b_L_law 487 = .ok (.if_icmp .eq 288, 3) := by decide +kernel
theorem d_L_law_490 : decode b_L_law 490 = .ok (.iconst 0, 1) := by decide +kernel
theorem d_L_law_491 : decode b_L_law 491 = .ok (.ireturn, 1) := by decide +kernel
theorem d_L_law_492 : decode b_L_law 492 = .ok (.aload_n 1, 1) := by decide +kernel
theorem d_L_law_493 : decode b_L_law 493 = .ok (.aload_n 0, 1) := by decide +kernel
theorem d_L_law_494 : decode b_L_law 494 = .ok (.iload_n 3, 1) := by decide +kernel
theorem d_L_law_495 : decode b_L_law 495 = .ok (.iconst 1, 1) := by decide +kernel
theorem d_L_law_496 : decode b_L_law 496 = .ok (.iadd, 1) := by decide +kernel
theorem d_L_law_497 : decode b_L_law 497 = .ok (.iaload, 1) := by decide +kernel
theorem d_L_law_498 : decode b_L_law 498 = .ok (.invokevirtual 62, 3) := by decide +kernel
theorem d_L_law_501 : decode b_L_law 501 = .ok (.aload_n 2, 1) := by decide +kernel
theorem d_L_law_502 : decode b_L_law 502 = .ok (.aload_n 0, 1) := by decide +kernel
theorem d_L_law_503 : decode b_L_law 503 = .ok (.iload_n 3, 1) := by decide +kernel
theorem d_L_law_504 : decode b_L_law 504 = .ok (.iconst 1, 1) := by decide +kernel
theorem d_L_law_505 : decode b_L_law 505 = .ok (.iadd, 1) := by decide +kernel
theorem d_L_law_506 : decode b_L_law 506 = .ok (.iaload, 1) := by decide +kernel
theorem d_L_law_507 : decode b_L_law 507 = .ok (.invokevirtual 66, 3) := by decide +kernel
theorem d_L_law_510 : decode b_L_law 510 = .ok (.if_icmp .eq 265, 3) := by decide +kernel
theorem d_L_law_513 : decode b_L_law 513 = .ok (.iconst 0, 1) := by decide +kernel
theorem d_L_law_514 : decode b_L_law 514 = .ok (.ireturn, 1) := by decide +kernel
theorem d_L_law_515 : decode b_L_law 515 = .ok (.aload_n 1, 1) := by decide +kernel
theorem d_L_law_516 : decode b_L_law 516 = .ok (.aload_n 0, 1) := by decide +kernel
theorem d_L_law_517 : decode b_L_law 517 = .ok (.iload_n 3, 1) := by decide +kernel
theorem d_L_law_518 : decode b_L_law 518 = .ok (.iconst 1, 1) := by decide +kernel
theorem d_L_law_519 : decode b_L_law 519 = .ok (.iadd, 1) := by decide +kernel
theorem d_L_law_520 : decode b_L_law 520 = .ok (.iaload, 1) := by decide +kernel
theorem d_L_law_521 : decode b_L_law 521 = .ok (.invokevirtual 67, 3) := by decide +kernel
theorem d_L_law_524 : decode b_L_law 524 = .ok (.aload_n 2, 1) := by decide +kernel
theorem d_L_law_525 : decode b_L_law 525 = .ok (.aload_n 0, 1) := by decide +kernel
theorem d_L_law_526 : decode b_L_law 526 = .ok (.iload_n 3, 1) := by decide +kernel
theorem d_L_law_527 : decode b_L_law 527 = .ok (.iconst 1, 1) := by decide +kernel
theorem d_L_law_528 : decode b_L_law 528 = .ok (.iadd, 1) := by decide +kernel
theorem d_L_law_529 : decode b_L_law 529 = .ok (.iaload, 1) := by decide +kernel
theorem d_L_law_530 : decode b_L_law 530 = .ok (.invokevirtual 70, 3) := by decide +kernel
theorem d_L_law_533 : decode b_L_law 533 = .ok (.if_icmp .eq 242, 3) := by decide +kernel
theorem d_L_law_536 : decode b_L_law 536 = .ok (.iconst 0, 1) := by decide +kernel
theorem d_L_law_537 : decode b_L_law 537 = .ok (.ireturn, 1) := by decide +kernel
theorem d_L_law_538 : decode b_L_law 538 = .ok (.aload_n 1, 1) := by decide +kernel
theorem d_L_law_539 : decode b_L_law 539 = .ok (.aload_n 0, 1) := by decide +kernel
theorem d_L_law_540 : decode b_L_law 540 = .ok (.iload_n 3, 1) := by decide +kernel
theorem d_L_law_541 : decode b_L_law 541 = .ok (.iconst 1, 1) := by decide +kernel
theorem d_L_law_542 : decode b_L_law 542 = .ok (.iadd, 1) := by decide +kernel
theorem d_L_law_543 : decode b_L_law 543 = .ok (.iaload, 1) := by decide +kernel
theorem d_L_law_544 : decode b_L_law 544 = .ok (.aload_n 0, 1) := by decide +kernel
theorem d_L_law_545 : decode b_L_law 545 = .ok (.iload_n 3, 1) := by decide +kernel
theorem d_L_law_546 : decode b_L_law 546 = .ok (.iconst 2, 1) := by decide +kernel
theorem d_L_law_547 : decode b_L_law 547 = .ok (.iadd, 1) := by decide +kernel
theorem d_L_law_548 : decode b_L_law 548 = .ok (.iaload, 1) := by decide +kernel
theorem d_L_law_549 : decode b_L_law 549 = .ok (.invokevirtual 71, 3) := by decide +kernel
theorem d_L_law_552 : decode b_L_law 552 = .ok (.aload_n 2, 1) := by decide +kernel
theorem d_L_law_553 : decode b_L_law 553 = .ok (.aload_n 0, 1) := by decide +kernel
theorem d_L_law_554 : decode b_L_law 554 = .ok (.iload_n 3, 1) := by decide +kernel
theorem d_L_law_555 : decode b_L_law 555 = .ok (.iconst 1, 1) := by decide +kernel
theorem d_L_law_556 : decode b_L_law 556 = .ok (.iadd, 1) := by decide +kernel
theorem d_L_law_557 : decode b_L_law 557 = .ok (.iaload, 1) := by decide +kernel
theorem d_L_law_558 : decode b_L_law 558 = .ok (.aload_n 0, 1) := by decide +kernel
theorem d_L_law_559 : decode b_L_law 559 = .ok (.iload_n 3, 1) := by decide +kernel
theorem d_L_law_560 : decode b_L_law 560 = .ok (.iconst 2, 1) := by decide +kernel
theorem d_L_law_561 : decode b_L_law 561 = .ok (.iadd, 1) := by decide +kernel
theorem d_L_law_562 : decode b_L_law 562 = .ok (.iaload, 1) := by decide +kernel
theorem d_L_law_563 : decode b_L_law 563 = .ok (.invokevirtual 74, 3) := by decide +kernel
theorem d_L_law_566 : decode b_L_law 566 = .ok (.if_icmp .eq 209, 3) := by decide +kernel
theorem d_L_law_569 : decode b_L_law 569 = .ok (.iconst 0, 1) := by decide +kernel
theorem d_L_law_570 : decode b_L_law 570 = .ok (.ireturn, 1) := by decide +kernel
theorem d_L_law_571 : decode b_L_law 571 = .ok (.aload_n 1, 1) := by decide +kernel
theorem d_L_law_572 : decode b_L_law 572 = .ok (.aload_n 0, 1) := by decide +kernel
theorem d_L_law_573 : decode b_L_law 573 = .ok (.iload_n 3, 1) := by decide +kernel
theorem d_L_law_574 : decode b_L_law 574 = .ok (.iconst 1, 1) := by decide +kernel
theorem d_L_law_575 : decode b_L_law 575 = .ok (.iadd, 1) := by decide +kernel
theorem d_L_law_576 : decode b_L_law 576 = .ok (.iaload, 1) := by decide +kernel
theorem d_L_law_577 : decode b_L_law 577 = .ok (.aload_n 0, 1) := by decide +kernel
theorem d_L_law_578 : decode b_L_law 578 = .ok (.iload_n 3, 1) := by decide +kernel
theorem d_L_law_579 : decode b_L_law 579 = .ok (.iconst 2, 1) := by decide +kernel
theorem d_L_law_580 : decode b_L_law 580 = .ok (.iadd, 1) := by decide +kernel
theorem d_L_law_581 : decode b_L_law 581 = .ok (.iaload, 1) := by decide +kernel
theorem d_L_law_582 : decode b_L_law 582 = .ok (.invokevirtual 75, 3) := by decide +kernel
theorem d_L_law_585 : decode b_L_law 585 = .ok (.aload_n 2, 1) := by decide +kernel
theorem d_L_law_586 : decode b_L_law 586 = .ok (.aload_n 0, 1) := by decide +kernel
theorem d_L_law_587 : decode b_L_law 587 = .ok (.iload_n 3, 1) := by decide +kernel
theorem d_L_law_588 : decode b_L_law 588 = .ok (.iconst 1, 1) := by decide +kernel
theorem d_L_law_589 : decode b_L_law 589 = .ok (.iadd, 1) := by decide +kernel
theorem d_L_law_590 : decode b_L_law 590 = .ok (.iaload, 1) := by decide +kernel
theorem d_L_law_591 : decode b_L_law 591 = .ok (.aload_n 0, 1) := by decide +kernel
theorem d_L_law_592 : decode b_L_law 592 = .ok (.iload_n 3, 1) := by decide +kernel
theorem d_L_law_593 : decode b_L_law 593 = .ok (.iconst 2, 1) := by decide +kernel
theorem d_L_law_594 : decode b_L_law 594 = .ok (.iadd, 1) := by decide +kernel
theorem d_L_law_595 : decode b_L_law 595 = .ok (.iaload, 1) := by decide +kernel
theorem d_L_law_596 : decode b_L_law 596 = .ok (.invokevirtual 77, 3) := by decide +kernel
theorem d_L_law_599 : decode b_L_law 599 = .ok (.if_icmp .eq 176, 3) := by decide +kernel
theorem d_L_law_602 : decode b_L_law 602 = .ok (.iconst 0, 1) := by decide +kernel
theorem d_L_law_603 : decode b_L_law 603 = .ok (.ireturn, 1) := by decide +kernel
theorem d_L_law_604 : decode b_L_law 604 = .ok (.aload_n 1, 1) := by decide +kernel
theorem d_L_law_605 : decode b_L_law 605 = .ok (.aload_n 0, 1) := by decide +kernel
theorem d_L_law_606 : decode b_L_law 606 = .ok (.iload_n 3, 1) := by decide +kernel
theorem d_L_law_607 : decode b_L_law 607 = .ok (.iconst 1, 1) := by decide +kernel
theorem d_L_law_608 : decode b_L_law 608 = .ok (.iadd, 1) := by decide +kernel
theorem d_L_law_609 : decode b_L_law 609 = .ok (.iaload, 1) := by decide +kernel
theorem d_L_law_610 : decode b_L_law 610 = .ok (.invokevirtual 78, 3) := by decide +kernel
theorem d_L_law_613 : decode b_L_law 613 = .ok (.aload_n 2, 1) := by decide +kernel
theorem d_L_law_614 : decode b_L_law 614 = .ok (.aload_n 0, 1) := by decide +kernel
theorem d_L_law_615 : decode b_L_law 615 = .ok (.iload_n 3, 1) := by decide +kernel
theorem d_L_law_616 : decode b_L_law 616 = .ok (.iconst 1, 1) := by decide +kernel
theorem d_L_law_617 : decode b_L_law 617 = .ok (.iadd, 1) := by decide +kernel
theorem d_L_law_618 : decode b_L_law 618 = .ok (.iaload, 1) := by decide +kernel
theorem d_L_law_619 : decode b_L_law 619 = .ok (.invokevirtual 81, 3) := by decide +kernel
theorem d_L_law_622 : decode b_L_law 622 = .ok (.if_icmp .eq 153, 3) := by decide +kernel
theorem d_L_law_625 : decode b_L_law 625 = .ok (.iconst 0, 1) := by decide +kernel
theorem d_L_law_626 : decode b_L_law 626 = .ok (.ireturn, 1) := by decide +kernel
theorem d_L_law_627 : decode b_L_law 627 = .ok (.aload_n 1, 1) := by decide +kernel
theorem d_L_law_628 : decode b_L_law 628 = .ok (.aload_n 0, 1) := by decide +kernel
theorem d_L_law_629 : decode b_L_law 629 = .ok (.iload_n 3, 1) := by decide +kernel
theorem d_L_law_630 : decode b_L_law 630 = .ok (.iconst 1, 1) := by decide +kernel
theorem d_L_law_631 : decode b_L_law 631 = .ok (.iadd, 1) := by decide +kernel
theorem d_L_law_632 : decode b_L_law 632 = .ok (.iaload, 1) := by decide +kernel
theorem d_L_law_633 : decode b_L_law 633 = .ok (.invokevirtual 82, 3) := by decide +kernel
theorem d_L_law_636 : decode b_L_law 636 = .ok (.aload_n 2, 1) := by decide +kernel
theorem d_L_law_637 : decode b_L_law 637 = .ok (.aload_n 0, 1) := by decide +kernel
theorem d_L_law_638 : decode b_L_law 638 = .ok (.iload_n 3, 1) := by decide +kernel
theorem d_L_law_639 : decode b_L_law 639 = .ok (.iconst 1, 1) := by decide +kernel
theorem d_L_law_640 : decode b_L_law 640 = .ok (.iadd, 1) := by decide +kernel
theorem d_L_law_641 : decode b_L_law 641 = .ok (.iaload, 1) := by decide +kernel
theorem d_L_law_642 : decode b_L_law 642 = .ok (.invokevirtual 85, 3) := by decide +kernel
theorem d_L_law_645 : decode b_L_law 645 = .ok (.if_icmp .eq 130, 3) := by decide +kernel
theorem d_L_law_648 : decode b_L_law 648 = .ok (.iconst 0, 1) := by decide +kernel
theorem d_L_law_649 : decode b_L_law 649 = .ok (.ireturn, 1) := by decide +kernel
theorem d_L_law_650 : decode b_L_law 650 = .ok (.aload_n 1, 1) := by decide +kernel
theorem d_L_law_651 : decode b_L_law 651 = .ok (.aload_n 0, 1) := by decide +kernel
theorem d_L_law_652 : decode b_L_law 652 = .ok (.iload_n 3, 1) := by decide +kernel
theorem d_L_law_653 : decode b_L_law 653 = .ok (.iconst 1, 1) := by decide +kernel
theorem d_L_law_654 : decode b_L_law 654 = .ok (.iadd, 1) := by decide +kernel
theorem d_L_law_655 : decode b_L_law 655 = .ok (.iaload, 1) := by decide +kernel
theorem d_L_law_656 : decode b_L_law 656 = .ok (.aload_n 0, 1) := by decide +kernel
theorem d_L_law_657 : decode b_L_law 657 = .ok (.iload_n 3, 1) := by decide +kernel
theorem d_L_law_658 : decode b_L_law 658 = .ok (.iconst 2, 1) := by decide +kernel
theorem d_L_law_659 : decode b_L_law 659 = .ok (.iadd, 1) := by decide +kernel
theorem d_L_law_660 : decode b_L_law 660 = .ok (.iaload, 1) := by decide +kernel
theorem d_L_law_661 : decode b_L_law 661 = .ok (.invokevirtual 86, 3) := by decide +kernel
theorem d_L_law_664 : decode b_L_law 664 = .ok (.aload_n 2, 1) := by decide +kernel
theorem d_L_law_665 : decode b_L_law 665 = .ok (.aload_n 0, 1) := by decide +kernel
theorem d_L_law_666 : decode b_L_law 666 = .ok (.iload_n 3, 1) := by decide +kernel
theorem d_L_law_667 : decode b_L_law 667 = .ok (.iconst 1, 1) := by decide +kernel
theorem d_L_law_668 : decode b_L_law 668 = .ok (.iadd, 1) := by decide +kernel
theorem d_L_law_669 : decode b_L_law 669 = .ok (.iaload, 1) := by decide +kernel
theorem d_L_law_670 : decode b_L_law 670 = .ok (.aload_n 0, 1) := by decide +kernel
theorem d_L_law_671 : decode b_L_law 671 = .ok (.iload_n 3, 1) := by decide +kernel
theorem d_L_law_672 : decode b_L_law 672 = .ok (.iconst 2, 1) := by decide +kernel
theorem d_L_law_673 : decode b_L_law 673 = .ok (.iadd, 1) := by decide +kernel
theorem d_L_law_674 : decode b_L_law 674 = .ok (.iaload, 1) := by decide +kernel
theorem d_L_law_675 : decode b_L_law 675 = .ok (.invokevirtual 89, 3) := by decide +kernel
theorem d_L_law_678 : decode b_L_law 678 = .ok (.if_icmp .eq 97, 3) := by decide +kernel
theorem d_L_law_681 : decode b_L_law 681 = .ok (.iconst 0, 1) := by decide +kernel
theorem d_L_law_682 : decode b_L_law 682 = .ok (.ireturn, 1) := by decide +kernel
theorem d_L_law_683 : decode b_L_law 683 = .ok (.aload_n 1, 1) := by decide +kernel
theorem d_L_law_684 : decode b_L_law 684 = .ok (.aload_n 0, 1) := by decide +kernel
theorem d_L_law_685 : decode b_L_law 685 = .ok (.iload_n 3, 1) := by decide +kernel
theorem d_L_law_686 : decode b_L_law 686 = .ok (.iconst 1, 1) := by decide +kernel
theorem d_L_law_687 : decode b_L_law 687 = .ok (.iadd, 1) := by decide +kernel
theorem d_L_law_688 : decode b_L_law 688 = .ok (.iaload, 1) := by decide +kernel
theorem d_L_law_689 : decode b_L_law 689 = .ok (.aload_n 0, 1) := by decide +kernel
theorem d_L_law_690 : decode b_L_law 690 = .ok (.iload_n 3, 1) := by decide +kernel
theorem d_L_law_691 : decode b_L_law 691 = .ok (.iconst 2, 1) := by decide +kernel
theorem d_L_law_692 : decode b_L_law 692 = .ok (.iadd, 1) := by decide +kernel
theorem d_L_law_693 : decode b_L_law 693 = .ok (.iaload, 1) := by decide +kernel
theorem d_L_law_694 : decode b_L_law 694 = .ok (.invokevirtual 90, 3) := by decide +kernel
theorem d_L_law_697 : decode b_L_law 697 = .ok (.aload_n 2, 1) := by decide +kernel
theorem d_L_law_698 : decode b_L_law 698 = .ok (.aload_n 0, 1) := by decide +kernel
theorem d_L_law_699 : decode b_L_law 699 = .ok (.iload_n 3, 1) := by decide +kernel
theorem d_L_law_700 : decode b_L_law 700 = .ok (.iconst 1, 1) := by decide +kernel
theorem d_L_law_701 : decode b_L_law 701 = .ok (.iadd, 1) := by decide +kernel
theorem d_L_law_702 : decode b_L_law 702 = .ok (.iaload, 1) := by decide +kernel
theorem d_L_law_703 : decode b_L_law 703 = .ok (.aload_n 0, 1) := by decide +kernel
theorem d_L_law_704 : decode b_L_law 704 = .ok (.iload_n 3, 1) := by decide +kernel
theorem d_L_law_705 : decode b_L_law 705 = .ok (.iconst 2, 1) := by decide +kernel
theorem d_L_law_706 : decode b_L_law 706 = .ok (.iadd, 1) := by decide +kernel
theorem d_L_law_707 : decode b_L_law 707 = .ok (.iaload, 1) := by decide +kernel
theorem d_L_law_708 : decode b_L_law 708 = .ok (.invokevirtual 93, 3) := by decide +kernel
theorem d_L_law_711 : decode b_L_law 711 = .ok (.if_icmp .eq 64, 3) := by decide +kernel
theorem d_L_law_714 : decode b_L_law 714 = .ok (.iconst 0, 1) := by decide +kernel
theorem d_L_law_715 : decode b_L_law 715 = .ok (.ireturn, 1) := by decide +kernel
theorem d_L_law_716 : decode b_L_law 716 = .ok (.aload_n 1, 1) := by decide +kernel
theorem d_L_law_717 : decode b_L_law 717 = .ok (.aload_n 0, 1) := by decide +kernel
theorem d_L_law_718 : decode b_L_law 718 = .ok (.iload_n 3, 1) := by decide +kernel
theorem d_L_law_719 : decode b_L_law 719 = .ok (.iconst 1, 1) := by decide +kernel
theorem d_L_law_720 : decode b_L_law 720 = .ok (.iadd, 1) := by decide +kernel
theorem d_L_law_721 : decode b_L_law 721 = .ok (.iaload, 1) := by decide +kernel
theorem d_L_law_722 : decode b_L_law 722 = .ok (.invokevirtual 94, 3) := by decide +kernel
theorem d_L_law_725 : decode b_L_law 725 = .ok (.aload_n 2, 1) := by decide +kernel
theorem d_L_law_726 : decode b_L_law 726 = .ok (.aload_n 0, 1) := by decide +kernel
theorem d_L_law_727 : decode b_L_law 727 = .ok (.iload_n 3, 1) := by decide +kernel
theorem d_L_law_728 : decode b_L_law 728 = .ok (.iconst 1, 1) := by decide +kernel
theorem d_L_law_729 : decode b_L_law 729 = .ok (.iadd, 1) := by decide +kernel
theorem d_L_law_730 : decode b_L_law 730 = .ok (.iaload, 1) := by decide +kernel
theorem d_L_law_731 : decode b_L_law 731 = .ok (.invokevirtual 97, 3) := by decide +kernel
theorem d_L_law_734 : decode b_L_law 734 = .ok (.if_icmp .eq 41, 3) := by decide +kernel
theorem d_L_law_737 : decode b_L_law 737 = .ok (.iconst 0, 1) := by decide +kernel
theorem d_L_law_738 : decode b_L_law 738 = .ok (.ireturn, 1) := by decide +kernel
theorem d_L_law_739 : decode b_L_law 739 = .ok (.aload_n 1, 1) := by decide +kernel
theorem d_L_law_740 : decode b_L_law 740 = .ok (.aload_n 0, 1) := by decide +kernel
theorem d_L_law_741 : decode b_L_law 741 = .ok (.iload_n 3, 1) := by decide +kernel
theorem d_L_law_742 : decode b_L_law 742 = .ok (.iconst 1, 1) := by decide +kernel
theorem d_L_law_743 : decode b_L_law 743 = .ok (.iadd, 1) := by decide +kernel
theorem d_L_law_744 : decode b_L_law 744 = .ok (.iaload, 1) := by decide +kernel
theorem d_L_law_745 : decode b_L_law 745 = .ok (.invokevirtual 98, 3) := by decide +kernel
theorem d_L_law_748 : decode b_L_law 748 = .ok (.aload_n 2, 1) := by decide +kernel
theorem d_L_law_749 : decode b_L_law 749 = .ok (.aload_n 0, 1) := by decide +kernel
theorem d_L_law_750 : decode b_L_law 750 = .ok (.iload_n 3, 1) := by decide +kernel
theorem d_L_law_751 : decode b_L_law 751 = .ok (.iconst 1, 1) := by decide +kernel
theorem d_L_law_752 : decode b_L_law 752 = .ok (.iadd, 1) := by decide +kernel
theorem d_L_law_753 : decode b_L_law 753 = .ok (.iaload, 1) := by decide +kernel
theorem d_L_law_754 : decode b_L_law 754 = .ok (.invokevirtual 101, 3) := by decide +kernel
theorem d_L_law_757 : decode b_L_law 757 = .ok (.if_icmp .eq 18, 3) := by decide +kernel
theorem d_L_law_760 : decode b_L_law 760 = .ok (.iconst 0, 1) := by decide +kernel
theorem d_L_law_761 : decode b_L_law 761 = .ok (.ireturn, 1) := by decide +kernel
theorem d_L_law_762 : decode b_L_law 762 = .ok (.aload_n 1, 1) := by decide +kernel
theorem d_L_law_763 : decode b_L_law 763 = .ok (.invokevirtual 102, 3) := by decide +kernel
theorem d_L_law_766 : decode b_L_law 766 = .ok (.aload_n 2, 1) := by decide +kernel
theorem d_L_law_767 : decode b_L_law 767 = .ok (.invokevirtual 105, 3) := by decide +kernel
theorem d_L_law_770 : decode b_L_law 770 = .ok (.if_icmp .eq 5, 3) := by decide +kernel
theorem d_L_law_773 : decode b_L_law 773 = .ok (.iconst 0, 1) := by decide +kernel
theorem d_L_law_774 : decode b_L_law 774 = .ok (.ireturn, 1) := by decide +kernel
theorem d_L_law_775 : decode b_L_law 775 = .ok (.iinc 3 6, 3) := by decide +kernel
theorem d_L_law_778 : decode b_L_law 778 = .ok (.goto (-730), 3) := by decide +kernel
theorem d_L_law_781 : decode b_L_law 781 = .ok (.iconst 1, 1) := by decide +kernel
theorem d_L_law_782 : decode b_L_law 782 = .ok (.ireturn, 1) := by decide +kernel
theorem d_B_init_0 : decode b_B_init 0 = .ok (.return_, 1) := by decide +kernel
theorem d_T_abs_0 : decode b_T_abs 0 = .ok (.iload_n 0, 1) := by decide +kernel
theorem d_T_abs_1 : decode b_T_abs 1 = .ok (.ifCond .ge 8, 3) := by decide +kernel
theorem d_T_abs_4 : decode b_T_abs 4 = .ok (.iload_n 0, 1) := by decide +kernel
theorem d_T_abs_5 : decode b_T_abs 5 = .ok (.ineg, 1) := by decide +kernel
theorem d_T_abs_6 : decode b_T_abs 6 = .ok (.goto 4, 3) := by decide +kernel
theorem d_T_abs_9 : decode b_T_abs 9 = .ok (.iload_n 0, 1) := by decide +kernel
theorem d_T_abs_10 : decode b_T_abs 10 = .ok (.ireturn, 1) := by decide +kernel
theorem d_T_floorDiv_0 : decode b_T_floorDiv 0 = .ok (.iload_n 0, 1) := by decide +kernel
theorem d_T_floorDiv_1 : decode b_T_floorDiv 1 = .ok (.iload_n 1, 1) := by decide +kernel
theorem d_T_floorDiv_2 : decode b_T_floorDiv 2 = .ok (.idiv, 1) := by decide +kernel
theorem d_T_floorDiv_3 : decode b_T_floorDiv 3 = .ok (.istore_n 2, 1) := by decide +kernel
theorem d_T_floorDiv_4 : decode b_T_floorDiv 4 = .ok (.iload_n 0, 1) := by decide +kernel
theorem d_T_floorDiv_5 : decode b_T_floorDiv 5 = .ok (.iload_n 1, 1) := by decide +kernel
theorem d_T_floorDiv_6 : decode b_T_floorDiv 6 = .ok (.ixor, 1) := by decide +kernel
theorem d_T_floorDiv_7 : decode b_T_floorDiv 7 = .ok (.ifCond .ge 14, 3) := by decide +kernel
theorem d_T_floorDiv_10 : decode b_T_floorDiv 10 = .ok (.iload_n 2, 1) := by decide +kernel
theorem d_T_floorDiv_11 : decode b_T_floorDiv 11 = .ok (.iload_n 1, 1) := by decide +kernel
theorem d_T_floorDiv_12 : decode b_T_floorDiv 12 = .ok (.imul, 1) := by decide +kernel
theorem d_T_floorDiv_13 : decode b_T_floorDiv 13 = .ok (.iload_n 0, 1) := by decide +kernel
theorem d_T_floorDiv_14 : decode b_T_floorDiv 14 = .ok (.if_icmp .eq 7, 3) := by decide +kernel
theorem d_T_floorDiv_17 : decode b_T_floorDiv 17 = .ok (.iload_n 2, 1) := by decide +kernel
theorem d_T_floorDiv_18 : decode b_T_floorDiv 18 = .ok (.iconst 1, 1) := by decide +kernel
theorem d_T_floorDiv_19 : decode b_T_floorDiv 19 = .ok (.isub, 1) := by decide +kernel
theorem d_T_floorDiv_20 : decode b_T_floorDiv 20 = .ok (.ireturn, 1) := by decide +kernel
theorem d_T_floorDiv_21 : decode b_T_floorDiv 21 = .ok (.iload_n 2, 1) := by decide +kernel
theorem d_T_floorDiv_22 : decode b_T_floorDiv 22 = .ok (.ireturn, 1) := by decide +kernel
theorem d_T_floorMod_0 : decode b_T_floorMod 0 = .ok (.iload_n 0, 1) := by decide +kernel
theorem d_T_floorMod_1 : decode b_T_floorMod 1 = .ok (.iload_n 1, 1) := by decide +kernel
theorem d_T_floorMod_2 : decode b_T_floorMod 2 = .ok (.irem, 1) := by decide +kernel
theorem d_T_floorMod_3 : decode b_T_floorMod 3 = .ok (.istore_n 2, 1) := by decide +kernel
theorem d_T_floorMod_4 : decode b_T_floorMod 4 = .ok (.iload_n 0, 1) := by decide +kernel
theorem d_T_floorMod_5 : decode b_T_floorMod 5 = .ok (.iload_n 1, 1) := by decide +kernel
theorem d_T_floorMod_6 : decode b_T_floorMod 6 = .ok (.ixor, 1) := by decide +kernel
theorem d_T_floorMod_7 : decode b_T_floorMod 7 = .ok (.ifCond .ge 11, 3) := by decide +kernel
theorem d_T_floorMod_10 : decode b_T_floorMod 10 = .ok (.iload_n 2, 1) := by decide +kernel
theorem d_T_floorMod_11 : decode b_T_floorMod 11 = .ok (.ifCond .eq 7, 3) := by decide +kernel
theorem d_T_floorMod_14 : decode b_T_floorMod 14 = .ok (.iload_n 2, 1) := by decide +kernel
theorem d_T_floorMod_15 : decode b_T_floorMod 15 = .ok (.iload_n 1, 1) := by decide +kernel
theorem d_T_floorMod_16 : decode b_T_floorMod 16 = .ok (.iadd, 1) := by decide +kernel
theorem d_T_floorMod_17 : decode b_T_floorMod 17 = .ok (.ireturn, 1) := by decide +kernel
theorem d_T_floorMod_18 : decode b_T_floorMod 18 = .ok (.iload_n 2, 1) := by decide +kernel
theorem d_T_floorMod_19 : decode b_T_floorMod 19 = .ok (.ireturn, 1) := by decide +kernel
theorem d_T_max_0 : decode b_T_max 0 = .ok (.iload_n 0, 1) := by decide +kernel
theorem d_T_max_1 : decode b_T_max 1 = .ok (.iload_n 1, 1) := by decide +kernel
theorem d_T_max_2 : decode b_T_max 2 = .ok (.if_icmp .lt 7, 3) := by decide +kernel
theorem d_T_max_5 : decode b_T_max 5 = .ok (.iload_n 0, 1) := by decide +kernel
theorem d_T_max_6 : decode b_T_max 6 = .ok (.goto 4, 3) := by decide +kernel
theorem d_T_max_9 : decode b_T_max 9 = .ok (.iload_n 1, 1) := by decide +kernel
theorem d_T_max_10 : decode b_T_max 10 = .ok (.ireturn, 1) := by decide +kernel
theorem d_T_min_0 : decode b_T_min 0 = .ok (.iload_n 0, 1) := by decide +kernel
theorem d_T_min_1 : decode b_T_min 1 = .ok (.iload_n 1, 1) := by decide +kernel
theorem d_T_min_2 : decode b_T_min 2 = .ok (.if_icmp .gt 7, 3) := by decide +kernel
theorem d_T_min_5 : decode b_T_min 5 = .ok (.iload_n 0, 1) := by decide +kernel
theorem d_T_min_6 : decode b_T_min 6 = .ok (.goto 4, 3) := by decide +kernel
theorem d_T_min_9 : decode b_T_min 9 = .ok (.iload_n 1, 1) := by decide +kernel
theorem d_T_min_10 : decode b_T_min 10 = .ok (.ireturn, 1) := by decide +kernel
theorem d_A_fill_0 : decode b_A_fill 0 = .ok (.iconst 0, 1) := by decide +kernel
theorem d_A_fill_1 : decode b_A_fill 1 = .ok (.istore_n 2, 1) := by decide +kernel
theorem d_A_fill_2 : decode b_A_fill 2 = .ok (.aload_n 0, 1) := by decide +kernel
theorem d_A_fill_3 : decode b_A_fill 3 = .ok (.arraylength, 1) := by decide +kernel
theorem d_A_fill_4 : decode b_A_fill 4 = .ok (.istore_n 3, 1) := by decide +kernel
theorem d_A_fill_5 : decode b_A_fill 5 = .ok (.iload_n 2, 1) := by decide +kernel
theorem d_A_fill_6 : decode b_A_fill 6 = .ok (.iload_n 3, 1) := by decide +kernel
theorem d_A_fill_7 : decode b_A_fill 7 = .ok (.if_icmp .ge 13, 3) := by decide +kernel
theorem d_A_fill_10 : decode b_A_fill 10 = .ok (.aload_n 0, 1) := by decide +kernel
theorem d_A_fill_11 : decode b_A_fill 11 = .ok (.iload_n 2, 1) := by decide +kernel
theorem d_A_fill_12 : decode b_A_fill 12 = .ok (.iload_n 1, 1) := by decide +kernel
theorem d_A_fill_13 : decode b_A_fill 13 = .ok (.iastore, 1) := by decide +kernel
theorem d_A_fill_14 : decode b_A_fill 14 = .ok (.iinc 2 1, 3) := by decide +kernel
theorem d_A_fill_17 : decode b_A_fill 17 = .ok (.goto (-12), 3) := by decide +kernel
theorem d_A_fill_20 : decode b_A_fill 20 = .ok (.return_, 1) := by decide +kernel
