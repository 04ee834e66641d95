theorem dX7_count_7 : decode cX7_count 7 = .ok (.bipush 10, 2) := by decide +kernel
theorem dX7_count_9 : decode cX7_count 9 = .ok (.aload_n 0, 1) := by decide +kernel
theorem dX7_count_10 : decode cX7_count 10 = .ok (.getfield 49, 3) := by decide +kernel
theorem dX7_count_13 : decode cX7_count 13 = .ok (.arraylength, 1) := by decide +kernel
theorem dX7_count_14 : decode cX7_count 14 = .ok (.iadd, 1) := by decide +kernel
theorem dX7_count_15 : decode cX7_count 15 = .ok (.if_icmp .ge 13, 3) := by decide +kernel
theorem dX7_count_18 : decode cX7_count 18 = .ok (.aload_n 0, 1) := by decide +kernel
theorem dX7_count_19 : decode cX7_count 19 = .ok (.getfield 49, 3) := by decide +kernel
theorem dX7_count_22 : decode cX7_count 22 = .ok (.iload_n 1, 1) := by decide +kernel
theorem dX7_count_23 : decode cX7_count 23 = .ok (.bipush 10, 2) := by decide +kernel
theorem dX7_count_25 : decode cX7_count 25 = .ok (.isub, 1) := by decide +kernel
theorem dX7_count_26 : decode cX7_count 26 = .ok (.iaload, 1) := by decide +kernel
theorem dX7_count_27 : decode cX7_count 27 = .ok (.ireturn, 1) := by decide +kernel
theorem dX7_count_28 : decode cX7_count 28 = .ok (.iload_n 1, 1) := by decide +kernel
theorem dX7_count_29 : decode cX7_count 29 = .ok (.tableswitch 84 0 5 #[39, 47, 55, 63, 71, 76], 39) := by decide +kernel
theorem dX7_count_68 : decode cX7_count 68 = .ok (.aload_n 0, 1) := by decide +kernel
theorem dX7_count_69 : decode cX7_count 69 = .ok (.getfield 10, 3) := by decide +kernel
theorem dX7_count_72 : decode cX7_count 72 = .ok (.getfield 217, 3) := by decide +kernel
theorem dX7_count_75 : decode cX7_count 75 = .ok (.ireturn, 1) := by decide +kernel
theorem dX7_count_76 : decode cX7_count 76 = .ok (.aload_n 0, 1) := by decide +kernel
theorem dX7_count_77 : decode cX7_count 77 = .ok (.getfield 10, 3) := by decide +kernel
theorem dX7_count_80 : decode cX7_count 80 = .ok (.getfield 220, 3) := by decide +kernel
theorem dX7_count_83 : decode cX7_count 83 = .ok (.ireturn, 1) := by decide +kernel
theorem dX7_count_84 : decode cX7_count 84 = .ok (.aload_n 0, 1) := by decide +kernel
theorem dX7_count_85 : decode cX7_count 85 = .ok (.getfield 10, 3) := by decide +kernel
theorem dX7_count_88 : decode cX7_count 88 = .ok (.getfield 140, 3) := by decide +kernel
theorem dX7_count_91 : decode cX7_count 91 = .ok (.ireturn, 1) := by decide +kernel
theorem dX7_count_92 : decode cX7_count 92 = .ok (.aload_n 0, 1) := by decide +kernel
theorem dX7_count_93 : decode cX7_count 93 = .ok (.getfield 10, 3) := by decide +kernel
theorem dX7_count_96 : decode cX7_count 96 = .ok (.invokevirtual 223, 3) := by decide +kernel
theorem dX7_count_99 : decode cX7_count 99 = .ok (.ireturn, 1) := by decide +kernel
theorem dX7_count_100 : decode cX7_count 100 = .ok (.aload_n 0, 1) := by decide +kernel
theorem dX7_count_101 : decode cX7_count 101 = .ok (.getfield 52, 3) := by decide +kernel
theorem dX7_count_104 : decode cX7_count 104 = .ok (.ireturn, 1) := by decide +kernel
theorem dX7_count_105 : decode cX7_count 105 = .ok (.aload_n 0, 1) := by decide +kernel
theorem dX7_count_106 : decode cX7_count 106 = .ok (.getfield 25, 3) := by decide +kernel
theorem dX7_count_109 : decode cX7_count 109 = .ok (.getfield 68, 3) := by decide +kernel
theorem dX7_count_112 : decode cX7_count 112 = .ok (.ireturn, 1) := by decide +kernel
theorem dX7_count_113 : decode cX7_count 113 = .ok (.bipush (-9), 2) := by decide +kernel
theorem dX7_count_115 : decode cX7_count 115 = .ok (.ireturn, 1) := by decide +kernel
theorem dX7_refuse_0 : decode cX7_refuse 0 = .ok (.iload_n 1, 1) := by decide +kernel
theorem dX7_refuse_1 : decode cX7_refuse 1 = .ok (.ineg, 1) := by decide +kernel
theorem dX7_refuse_2 : decode cX7_refuse 2 = .ok (.istore_n 2, 1) := by decide +kernel
theorem dX7_refuse_3 : decode cX7_refuse 3 = .ok (.iload_n 2, 1) := by decide +kernel
theorem dX7_refuse_4 : decode cX7_refuse 4 = .ok (.ifCond .lt 22, 3) := by decide +kernel
theorem dX7_refuse_7 : decode cX7_refuse 7 = .ok (.iload_n 2, 1) := by decide +kernel
theorem dX7_refuse_8 : decode cX7_refuse 8 = .ok (.aload_n 0, 1) := by decide +kernel
theorem dX7_refuse_9 : decode cX7_refuse 9 = .ok (.getfield 49, 3) := by decide +kernel
theorem dX7_refuse_12 : decode cX7_refuse 12 = .ok (.arraylength, 1) := by decide +kernel
theorem dX7_refuse_13 : decode cX7_refuse 13 = .ok (.if_icmp .ge 13, 3) := by decide +kernel
theorem dX7_refuse_16 : decode cX7_refuse 16 = .ok (.aload_n 0, 1) := by decide +kernel
theorem dX7_refuse_17 : decode cX7_refuse 17 = .ok (.getfield 49, 3) := by decide +kernel
theorem dX7_refuse_20 : decode cX7_refuse 20 = .ok (.iload_n 2, 1) := by decide +kernel
theorem dX7_refuse_21 : decode cX7_refuse 21 = .ok (.dup2, 1) := by decide +kernel
theorem dX7_refuse_22 : decode cX7_refuse 22 = .ok (.iaload, 1) := by decide +kernel
theorem dX7_refuse_23 : decode cX7_refuse 23 = .ok (.iconst 1, 1) := by decide +kernel
theorem dX7_refuse_24 : decode cX7_refuse 24 = .ok (.iadd, 1) := by decide +kernel
theorem dX7_refuse_25 : decode cX7_refuse 25 = .ok (.iastore, 1) := by decide +kernel
theorem dX7_refuse_26 : decode cX7_refuse 26 = .ok (.iload_n 1, 1) := by decide +kernel
theorem dX7_refuse_27 : decode cX7_refuse 27 = .ok (.ireturn, 1) := by decide +kernel
theorem dX7_tellStatements_0 : decode cX7_tellStatements 0 = .ok (.aload_n 0, 1) := by decide +kernel
theorem dX7_tellStatements_1 : decode cX7_tellStatements 1 = .ok (.getfield 16, 3) := by decide +kernel
theorem dX7_tellStatements_4 : decode cX7_tellStatements 4 = .ok (.aload_n 0, 1) := by decide +kernel
theorem dX7_tellStatements_5 : decode cX7_tellStatements 5 = .ok (.getfield 10, 3) := by decide +kernel
theorem dX7_tellStatements_8 : decode cX7_tellStatements 8 = .ok (.invokevirtual 214, 3) := by decide +kernel
theorem dX7_tellStatements_11 : decode cX7_tellStatements 11 = .ok (.iconst 0, 1) := by decide +kernel
theorem dX7_tellStatements_12 : decode cX7_tellStatements 12 = .ok (.istore_n 1, 1) := by decide +kernel
theorem dX7_tellStatements_13 : decode cX7_tellStatements 13 = .ok (.iconst 0, 1) := by decide +kernel
theorem dX7_tellStatements_14 : decode cX7_tellStatements 14 = .ok (.istore_n 2, 1) := by decide +kernel
theorem dX7_tellStatements_15 : decode cX7_tellStatements 15 = .ok (.iload_n 2, 1) := by decide +kernel
theorem dX7_tellStatements_16 : decode cX7_tellStatements 16 = .ok (.aload_n 0, 1) := by decide +kernel
theorem dX7_tellStatements_17 : decode cX7_tellStatements 17 = .ok (.getfield 25, 3) := by decide +kernel
theorem dX7_tellStatements_20 : decode cX7_tellStatements 20 = .ok (.getfield 68, 3) := by decide +kernel
theorem dX7_tellStatements_23 : decode cX7_tellStatements 23 = .ok (.if_icmp .ge 60, 3) := by decide +kernel
theorem dX7_tellStatements_26 : decode cX7_tellStatements 26 = .ok (.iload_n 1, 1) := by decide +kernel
theorem dX7_tellStatements_27 : decode cX7_tellStatements 27 = .ok (.bipush 64, 2) := by decide +kernel
theorem dX7_tellStatements_29 : decode cX7_tellStatements 29 = .ok (.if_icmp .ge 54, 3) := by decide +kernel
theorem dX7_tellStatements_32 : decode cX7_tellStatements 32 = .ok (.aload_n 0, 1) := by decide +kernel
theorem dX7_tellStatements_33 : decode cX7_tellStatements 33 = .ok (.getfield 25, 3) := by decide +kernel
theorem dX7_tellStatements_36 : decode cX7_tellStatements 36 = .ok (.iload_n 2, 1) := by decide +kernel
theorem dX7_tellStatements_37 : decode cX7_tellStatements 37 = .ok (.invokevirtual 226, 3) := by decide +kernel
theorem dX7_tellStatements_40 : decode cX7_tellStatements 40 = .ok (.istore_n 3, 1) := by decide +kernel
theorem dX7_tellStatements_41 : decode cX7_tellStatements 41 = .ok (.iload_n 3, 1) := by decide +kernel
theorem dX7_tellStatements_42 : decode cX7_tellStatements 42 = .ok (.ifCond .lt 27, 3) := by decide +kernel
theorem dX7_tellStatements_45 : decode cX7_tellStatements 45 = .ok (.aload_n 0, 1) := by decide +kernel
theorem dX7_tellStatements_46 : decode cX7_tellStatements 46 = .ok (.getfield 16, 3) := by decide +kernel
theorem dX7_tellStatements_49 : decode cX7_tellStatements 49 = .ok (.aload_n 0, 1) := by decide +kernel
theorem dX7_tellStatements_50 : decode cX7_tellStatements 50 = .ok (.getfield 25, 3) := by decide +kernel
theorem dX7_tellStatements_53 : decode cX7_tellStatements 53 = .ok (.getfield 229, 3) := by decide +kernel
theorem dX7_tellStatements_56 : decode cX7_tellStatements 56 = .ok (.aload_n 0, 1) := by decide +kernel
theorem dX7_tellStatements_57 : decode cX7_tellStatements 57 = .ok (.getfield 25, 3) := by decide +kernel
theorem dX7_tellStatements_60 : decode cX7_tellStatements 60 = .ok (.getfield 232, 3) := by decide +kernel
theorem dX7_tellStatements_63 : decode cX7_tellStatements 63 = .ok (.invokevirtual 235, 3) := by decide +kernel
theorem dX7_tellStatements_66 : decode cX7_tellStatements 66 = .ok (.ifCond .ne 9, 3) := by decide +kernel
theorem dX7_tellStatements_69 : decode cX7_tellStatements 69 = .ok (.sipush (-2000), 3) := by decide +kernel
theorem dX7_tellStatements_72 : decode cX7_tellStatements 72 = .ok (.iload_n 2, 1) := by decide +kernel
theorem dX7_tellStatements_73 : decode cX7_tellStatements 73 = .ok (.isub, 1) := by decide +kernel
theorem dX7_tellStatements_74 : decode cX7_tellStatements 74 = .ok (.ireturn, 1) := by decide +kernel
theorem dX7_tellStatements_75 : decode cX7_tellStatements 75 = .ok (.iload_n 3, 1) := by decide +kernel
theorem dX7_tellStatements_76 : decode cX7_tellStatements 76 = .ok (.istore_n 2, 1) := by decide +kernel
theorem dX7_tellStatements_77 : decode cX7_tellStatements 77 = .ok (.iinc 1 1, 3) := by decide +kernel
theorem dX7_tellStatements_80 : decode cX7_tellStatements 80 = .ok (.goto (-65), 3) := by decide +kernel
theorem dX7_tellStatements_83 : decode cX7_tellStatements 83 = .ok (.aload_n 0, 1) := by decide +kernel
theorem dX7_tellStatements_84 : decode cX7_tellStatements 84 = .ok (.getfield 16, 3) := by decide +kernel
theorem dX7_tellStatements_87 : decode cX7_tellStatements 87 = .ok (.invokevirtual 239, 3) := by decide +kernel
theorem dX7_tellStatements_90 : decode cX7_tellStatements 90 = .ok (.aload_n 0, 1) := by decide +kernel
theorem dX7_tellStatements_91 : decode cX7_tellStatements 91 = .ok (.getfield 10, 3) := by decide +kernel
theorem dX7_tellStatements_94 : decode cX7_tellStatements 94 = .ok (.aload_n 0, 1) := by decide +kernel
theorem dX7_tellStatements_95 : decode cX7_tellStatements 95 = .ok (.getfield 16, 3) := by decide +kernel
theorem dX7_tellStatements_98 : decode cX7_tellStatements 98 = .ok (.invokevirtual 214, 3) := by decide +kernel
theorem dX7_tellStatements_101 : decode cX7_tellStatements 101 = .ok (.iload_n 1, 1) := by decide +kernel
theorem dX7_tellStatements_102 : decode cX7_tellStatements 102 = .ok (.ireturn, 1) := by decide +kernel
theorem dX7_firstBadInLine_0 : decode cX7_firstBadInLine 0 = .ok (.iconst 0, 1) := by decide +kernel
theorem dX7_firstBadInLine_1 : decode cX7_firstBadInLine 1 = .ok (.istore_n 1, 1) := by decide +kernel
theorem dX7_firstBadInLine_2 : decode cX7_firstBadInLine 2 = .ok (.iconst 0, 1) := by decide +kernel
theorem dX7_firstBadInLine_3 : decode cX7_firstBadInLine 3 = .ok (.istore_n 2, 1) := by decide +kernel
theorem dX7_firstBadInLine_4 : decode cX7_firstBadInLine 4 = .ok (.iload_n 2, 1) := by decide +kernel
theorem dX7_firstBadInLine_5 : decode cX7_firstBadInLine 5 = .ok (.aload_n 0, 1) := by decide +kernel
theorem dX7_firstBadInLine_6 : decode cX7_firstBadInLine 6 = .ok (.getfield 10, 3) := by decide +kernel
theorem dX7_firstBadInLine_9 : decode cX7_firstBadInLine 9 = .ok (.getfield 140, 3) := by decide +kernel
theorem dX7_firstBadInLine_12 : decode cX7_firstBadInLine 12 = .ok (.if_icmp .ge 74, 3) := by decide +kernel
theorem dX7_firstBadInLine_15 : decode cX7_firstBadInLine 15 = .ok (.iload_n 2, 1) := by decide +kernel
theorem dX7_firstBadInLine_16 : decode cX7_firstBadInLine 16 = .ok (.aload_n 0, 1) := by decide +kernel
theorem dX7_firstBadInLine_17 : decode cX7_firstBadInLine 17 = .ok (.getfield 52, 3) := by decide +kernel
theorem dX7_firstBadInLine_20 : decode cX7_firstBadInLine 20 = .ok (.if_icmp .ge 66, 3) := by decide +kernel
theorem dX7_firstBadInLine_23 : decode cX7_firstBadInLine 23 = .ok (.aload_n 0, 1) := by decide +kernel
theorem dX7_firstBadInLine_24 : decode cX7_firstBadInLine 24 = .ok (.getfield 45, 3) := by decide +kernel
theorem dX7_firstBadInLine_27 : decode cX7_firstBadInLine 27 = .ok (.iload_n 2, 1) := by decide +kernel
theorem dX7_firstBadInLine_28 : decode cX7_firstBadInLine 28 = .ok (.iaload, 1) := by decide +kernel
theorem dX7_firstBadInLine_29 : decode cX7_firstBadInLine 29 = .ok (.istore_n 3, 1) := by decide +kernel
theorem dX7_firstBadInLine_30 : decode cX7_firstBadInLine 30 = .ok (.iload_n 3, 1) := by decide +kernel
theorem dX7_firstBadInLine_31 : decode cX7_firstBadInLine 31 = .ok (.bipush 9, 2) := by decide +kernel
theorem dX7_firstBadInLine_33 : decode cX7_firstBadInLine 33 = .ok (.if_icmp .ne 6, 3) := by decide +kernel
theorem dX7_firstBadInLine_36 : decode cX7_firstBadInLine 36 = .ok (.goto 44, 3) := by decide +kernel
theorem dX7_firstBadInLine_39 : decode cX7_firstBadInLine 39 = .ok (.aload_n 0, 1) := by decide +kernel
theorem dX7_firstBadInLine_40 : decode cX7_firstBadInLine 40 = .ok (.getfield 10, 3) := by decide +kernel
theorem dX7_firstBadInLine_43 : decode cX7_firstBadInLine 43 = .ok (.iload_n 3, 1) := by decide +kernel
theorem dX7_firstBadInLine_44 : decode cX7_firstBadInLine 44 = .ok (.invokevirtual 86, 3) := by decide +kernel
theorem dX7_firstBadInLine_47 : decode cX7_firstBadInLine 47 = .ok (.ifCond .eq 25, 3) := by decide +kernel
theorem dX7_firstBadInLine_50 : decode cX7_firstBadInLine 50 = .ok (.iload_n 1, 1) := by decide +kernel
theorem dX7_firstBadInLine_51 : decode cX7_firstBadInLine 51 = .ok (.iload_n 3, 1) := by decide +kernel
theorem dX7_firstBadInLine_52 : decode cX7_firstBadInLine 52 = .ok (.ishr, 1) := by decide +kernel
theorem dX7_firstBadInLine_53 : decode cX7_firstBadInLine 53 = .ok (.iconst 1, 1) := by decide +kernel
theorem dX7_firstBadInLine_54 : decode cX7_firstBadInLine 54 = .ok (.iand, 1) := by decide +kernel
theorem dX7_firstBadInLine_55 : decode cX7_firstBadInLine 55 = .ok (.ifCond .ne 17, 3) := by decide +kernel
theorem dX7_firstBadInLine_58 : decode cX7_firstBadInLine 58 = .ok (.aload_n 0, 1) := by decide +kernel
theorem dX7_firstBadInLine_59 : decode cX7_firstBadInLine 59 = .ok (.getfield 10, 3) := by decide +kernel
theorem dX7_firstBadInLine_62 : decode cX7_firstBadInLine 62 = .ok (.iload_n 3, 1) := by decide +kernel
theorem dX7_firstBadInLine_63 : decode cX7_firstBadInLine 63 = .ok (.iload_n 2, 1) := by decide +kernel
theorem dX7_firstBadInLine_64 : decode cX7_firstBadInLine 64 = .ok (.invokevirtual 180, 3) := by decide +kernel
theorem dX7_firstBadInLine_67 : decode cX7_firstBadInLine 67 = .ok (.bipush (-9), 2) := by decide +kernel
theorem dX7_firstBadInLine_69 : decode cX7_firstBadInLine 69 = .ok (.if_icmp .ne 5, 3) := by decide +kernel
theorem dX7_firstBadInLine_72 : decode cX7_firstBadInLine 72 = .ok (.iload_n 2, 1) := by decide +kernel
theorem dX7_firstBadInLine_73 : decode cX7_firstBadInLine 73 = .ok (.ireturn, 1) := by decide +kernel
theorem dX7_firstBadInLine_74 : decode cX7_firstBadInLine 74 = .ok (.iload_n 1, 1) := by decide +kernel
theorem dX7_firstBadInLine_75 : decode cX7_firstBadInLine 75 = .ok (.iconst 1, 1) := by decide +kernel
theorem dX7_firstBadInLine_76 : decode cX7_firstBadInLine 76 = .ok (.iload_n 3, 1) := by decide +kernel
theorem dX7_firstBadInLine_77 : decode cX7_firstBadInLine 77 = .ok (.ishl, 1) := by decide +kernel
theorem dX7_firstBadInLine_78 : decode cX7_firstBadInLine 78 = .ok (.ior, 1) := by decide +kernel
theorem dX7_firstBadInLine_79 : decode cX7_firstBadInLine 79 = .ok (.istore_n 1, 1) := by decide +kernel
theorem dX7_firstBadInLine_80 : decode cX7_firstBadInLine 80 = .ok (.iinc 2 1, 3) := by decide +kernel
theorem dX7_firstBadInLine_83 : decode cX7_firstBadInLine 83 = .ok (.goto (-79), 3) := by decide +kernel
theorem dX7_firstBadInLine_86 : decode cX7_firstBadInLine 86 = .ok (.aload_n 0, 1) := by decide +kernel
theorem dX7_firstBadInLine_87 : decode cX7_firstBadInLine 87 = .ok (.getfield 52, 3) := by decide +kernel
theorem dX7_firstBadInLine_90 : decode cX7_firstBadInLine 90 = .ok (.aload_n 0, 1) := by decide +kernel
theorem dX7_firstBadInLine_91 : decode cX7_firstBadInLine 91 = .ok (.getfield 10, 3) := by decide +kernel
theorem dX7_firstBadInLine_94 : decode cX7_firstBadInLine 94 = .ok (.getfield 140, 3) := by decide +kernel
theorem dX7_firstBadInLine_97 : decode cX7_firstBadInLine 97 = .ok (.if_icmp .ne 8, 3) := by decide +kernel
theorem dX7_firstBadInLine_100 : decode cX7_firstBadInLine 100 = .ok (.bipush (-9), 2) := by decide +kernel
theorem dX7_firstBadInLine_102 : decode cX7_firstBadInLine 102 = .ok (.goto 17, 3) := by decide +kernel
theorem dX7_firstBadInLine_105 : decode cX7_firstBadInLine 105 = .ok (.aload_n 0, 1) := by decide +kernel
theorem dX7_firstBadInLine_106 : decode cX7_firstBadInLine 106 = .ok (.getfield 52, 3) := by decide +kernel
theorem dX7_firstBadInLine_109 : decode cX7_firstBadInLine 109 = .ok (.aload_n 0, 1) := by decide +kernel
theorem dX7_firstBadInLine_110 : decode cX7_firstBadInLine 110 = .ok (.getfield 10, 3) := by decide +kernel
theorem dX7_firstBadInLine_113 : decode cX7_firstBadInLine 113 = .ok (.getfield 140, 3) := by decide +kernel
theorem dX7_firstBadInLine_116 : decode cX7_firstBadInLine 116 = .ok (.invokestatic 242, 3) := by decide +kernel
theorem dX7_firstBadInLine_119 : decode cX7_firstBadInLine 119 = .ok (.ireturn, 1) := by decide +kernel
theorem dJ9_max_7cf53_0 : decode cJ9_max_7cf53 0 = .ok (.iload_n 0, 1) := by decide +kernel
theorem dJ9_max_7cf53_1 : decode cJ9_max_7cf53 1 = .ok (.iload_n 1, 1) := by decide +kernel
theorem dJ9_max_7cf53_2 : decode cJ9_max_7cf53 2 = .ok (.if_icmp .lt 7, 3) := by decide +kernel
theorem dJ9_max_7cf53_5 : decode cJ9_max_7cf53 5 = .ok (.iload_n 0, 1) := by decide +kernel
theorem dJ9_max_7cf53_6 : decode cJ9_max_7cf53 6 = .ok (.goto 4, 3) := by decide +kernel
theorem dJ9_max_7cf53_9 : decode cJ9_max_7cf53 9 = .ok (.iload_n 1, 1) := by decide +kernel
theorem dJ9_max_7cf53_10 : decode cJ9_max_7cf53 10 = .ok (.ireturn, 1) := by decide +kernel
theorem dJ9_min_7cf53_0 : decode cJ9_min_7cf53 0 = .ok (.iload_n 0, 1) := by decide +kernel
theorem dJ9_min_7cf53_1 : decode cJ9_min_7cf53 1 = .ok (.iload_n 1, 1) := by decide +kernel
theorem dJ9_min_7cf53_2 : decode cJ9_min_7cf53 2 = .ok (.if_icmp .gt 7, 3) := by decide +kernel
theorem dJ9_min_7cf53_5 : decode cJ9_min_7cf53 5 = .ok (.iload_n 0, 1) := by decide +kernel
theorem dJ9_min_7cf53_6 : decode cJ9_min_7cf53 6 = .ok (.goto 4, 3) := by decide +kernel
theorem dJ9_min_7cf53_9 : decode cJ9_min_7cf53 9 = .ok (.iload_n 1, 1) := by decide +kernel
theorem dJ9_min_7cf53_10 : decode cJ9_min_7cf53 10 = .ok (.ireturn, 1) := by decide +kernel
theorem dJ0_length_8abf5_0 : decode cJ0_length_8abf5 0 = .ok (.aload_n 0, 1) := by decide +kernel
theorem dJ0_length_8abf5_1 : decode cJ0_length_8abf5 1 = .ok (.getfield 9, 3) := by decide +kernel
theorem dJ0_length_8abf5_4 : decode cJ0_length_8abf5 4 = .ok (.arraylength, 1) := by decide +kernel
theorem dJ0_length_8abf5_5 : decode cJ0_length_8abf5 5 = .ok (.aload_n 0, 1) := by decide +kernel
theorem dJ0_length_8abf5_6 : decode cJ0_length_8abf5 6 = .ok (.invokevirtual 335, 3) := by decide +kernel
theorem dJ0_length_8abf5_9 : decode cJ0_length_8abf5 9 = .ok (.ishr, 1) := by decide +kernel
theorem dJ0_length_8abf5_10 : decode cJ0_length_8abf5 10 = .ok (.ireturn, 1) := by decide +kernel
theorem dJ0_isEmpty_aae02_0 : decode cJ0_isEmpty_aae02 0 = .ok (.aload_n 0, 1) := by decide +kernel
theorem dJ0_isEmpty_aae02_1 : decode cJ0_isEmpty_aae02 1 = .ok (.getfield 9, 3) := by decide +kernel
theorem dJ0_isEmpty_aae02_4 : decode cJ0_isEmpty_aae02 4 = .ok (.arraylength, 1) := by decide +kernel
theorem dJ0_isEmpty_aae02_5 : decode cJ0_isEmpty_aae02 5 = .ok (.ifCond .ne 7, 3) := by decide +kernel
theorem dJ0_isEmpty_aae02_8 : decode cJ0_isEmpty_aae02 8 = .ok (.iconst 1, 1) := by decide +kernel
theorem dJ0_isEmpty_aae02_9 : decode cJ0_isEmpty_aae02 9 = .ok (.goto 4, 3) := by decide +kernel
theorem dJ0_isEmpty_aae02_12 : decode cJ0_isEmpty_aae02 12 = .ok (.iconst 0, 1) := by decide +kernel
theorem dJ0_isEmpty_aae02_13 : decode cJ0_isEmpty_aae02 13 = .ok (.ireturn, 1) := by decide +kernel
theorem dJ0_charAt_5068e_0 : decode cJ0_charAt_5068e 0 = .ok (.aload_n 0, 1) := by decide +kernel
theorem dJ0_charAt_5068e_1 : decode cJ0_charAt_5068e 1 = .ok (.invokevirtual 492, 3) := by decide +kernel
theorem dJ0_charAt_5068e_4 : decode cJ0_charAt_5068e 4 = .ok (.ifCond .eq 12, 3) := by decide +kernel
theorem dJ0_charAt_5068e_7 : decode cJ0_charAt_5068e 7 = .ok (.aload_n 0, 1) := by decide +kernel
theorem dJ0_charAt_5068e_8 : decode cJ0_charAt_5068e 8 = .ok (.getfield 9, 3) := by decide +kernel
theorem dJ0_charAt_5068e_11 : decode cJ0_charAt_5068e 11 = .ok (.iload_n 1, 1) := by decide +kernel
theorem dJ0_charAt_5068e_12 : decode cJ0_charAt_5068e 12 = .ok (.invokestatic 495, 3) := by decide +kernel
theorem dJ0_charAt_5068e_15 : decode cJ0_charAt_5068e 15 = .ok (.ireturn, 1) := by decide +kernel
theorem dJ0_charAt_5068e_16 : decode cJ0_charAt_5068e 16 = .ok (.aload_n 0, 1) := by decide +kernel
theorem dJ0_charAt_5068e_17 : decode cJ0_charAt_5068e 17 = .ok (.getfield 9, 3) := by decide +kernel
theorem dJ0_charAt_5068e_20 : decode cJ0_charAt_5068e 20 = .ok (.iload_n 1, 1) := by decide +kernel
theorem dJ0_charAt_5068e_21 : decode cJ0_charAt_5068e 21 = .ok (.invokestatic 498, 3) := by decide +kernel
theorem dJ0_charAt_5068e_24 : decode cJ0_charAt_5068e 24 = .ok (.ireturn, 1) := by decide +kernel
theorem dJ0_coder_7d493_0 : decode cJ0_coder_7d493 0 = .ok (.getstatic 38, 3) := by decide +kernel
theorem dJ0_coder_7d493_3 : decode cJ0_coder_7d493 3 = .ok (.ifCond .eq 10, 3) := by decide +kernel
theorem dJ0_coder_7d493_6 : decode cJ0_coder_7d493 6 = .ok (.aload_n 0, 1) := by decide +kernel
theorem dJ0_coder_7d493_7 : decode cJ0_coder_7d493 7 = .ok (.getfield 15, 3) := by decide +kernel
theorem dJ0_coder_7d493_10 : decode cJ0_coder_7d493 10 = .ok (.goto 4, 3) := by decide +kernel
theorem dJ0_coder_7d493_13 : decode cJ0_coder_7d493 13 = .ok (.iconst 1, 1) := by decide +kernel
theorem dJ0_coder_7d493_14 : decode cJ0_coder_7d493 14 = .ok (.ireturn, 1) := by decide +kernel
theorem dJ0_isLatin1_aae02_0 : decode cJ0_isLatin1_aae02 0 = .ok (.getstatic 38, 3) := by decide +kernel
theorem dJ0_isLatin1_aae02_3 : decode cJ0_isLatin1_aae02 3 = .ok (.ifCond .eq 14, 3) := by decide +kernel
theorem dJ0_isLatin1_aae02_6 : decode cJ0_isLatin1_aae02 6 = .ok (.aload_n 0, 1) := by decide +kernel
theorem dJ0_isLatin1_aae02_7 : decode cJ0_isLatin1_aae02 7 = .ok (.getfield 15, 3) := by decide +kernel
theorem dJ0_isLatin1_aae02_10 : decode cJ0_isLatin1_aae02 10 = .ok (.ifCond .ne 7, 3) := by decide +kernel
theorem dJ0_isLatin1_aae02_13 : decode cJ0_isLatin1_aae02 13 = .ok (.iconst 1, 1) := by decide +kernel
theorem dJ0_isLatin1_aae02_14 : decode cJ0_isLatin1_aae02 14 = .ok (.goto 4, 3) := by decide +kernel
theorem dJ0_isLatin1_aae02_17 : decode cJ0_isLatin1_aae02 17 = .ok (.iconst 0, 1) := by decide +kernel
theorem dJ0_isLatin1_aae02_18 : decode cJ0_isLatin1_aae02 18 = .ok (.ireturn, 1) := by decide +kernel
theorem dJ0_checkIndex_df160_0 : decode cJ0_checkIndex_df160 0 = .ok (.iload_n 0, 1) := by decide +kernel
theorem dJ0_checkIndex_df160_1 : decode cJ0_checkIndex_df160 1 = .ok (.iload_n 1, 1) := by decide +kernel
theorem dJ0_checkIndex_df160_2 : decode cJ0_checkIndex_df160 2 = .ok (.getstatic 1053, 3) := by decide +kernel
theorem dJ0_checkIndex_df160_5 : decode cJ0_checkIndex_df160 5 = .ok (.invokestatic 1059, 3) := by decide +kernel
theorem dJ0_checkIndex_df160_8 : decode cJ0_checkIndex_df160 8 = .ok (.pop, 1) := by decide +kernel
theorem dJ0_checkIndex_df160_9 : decode cJ0_checkIndex_df160 9 = .ok (.return_, 1) := by decide +kernel
theorem dJ1_charAt_3b067_0 : decode cJ1_charAt_3b067 0 = .ok (.iload_n 1, 1) := by decide +kernel
theorem dJ1_charAt_3b067_1 : decode cJ1_charAt_3b067 1 = .ok (.aload_n 0, 1) := by decide +kernel
theorem dJ1_charAt_3b067_2 : decode cJ1_charAt_3b067 2 = .ok (.arraylength, 1) := by decide +kernel
theorem dJ1_charAt_3b067_3 : decode cJ1_charAt_3b067 3 = .ok (.invokestatic 9, 3) := by decide +kernel
theorem dJ1_charAt_3b067_6 : decode cJ1_charAt_3b067 6 = .ok (.aload_n 0, 1) := by decide +kernel
theorem dJ1_charAt_3b067_7 : decode cJ1_charAt_3b067 7 = .ok (.iload_n 1, 1) := by decide +kernel
theorem dJ1_charAt_3b067_8 : decode cJ1_charAt_3b067 8 = .ok (.baload, 1) := by decide +kernel
theorem dJ1_charAt_3b067_9 : decode cJ1_charAt_3b067 9 = .ok (.sipush 255, 3) := by decide +kernel
theorem dJ1_charAt_3b067_12 : decode cJ1_charAt_3b067 12 = .ok (.iand, 1) := by decide +kernel
theorem dJ1_charAt_3b067_13 : decode cJ1_charAt_3b067 13 = .ok (.i2c, 1) := by decide +kernel
theorem dJ1_charAt_3b067_14 : decode cJ1_charAt_3b067 14 = .ok (.ireturn, 1) := by decide +kernel
theorem dJ2_getChar_3b067_0 : decode cJ2_getChar_3b067 0 = .ok (.getstatic 44, 3) := by decide +kernel
theorem dJ2_getChar_3b067_3 : decode cJ2_getChar_3b067 3 = .ok (.ifCond .ne 25, 3) := by decide +kernel
theorem dJ2_getChar_3b067_6 : decode cJ2_getChar_3b067 6 = .ok (.iload_n 1, 1) := by decide +kernel
theorem dJ2_getChar_3b067_7 : decode cJ2_getChar_3b067 7 = .ok (.ifCond .lt 11, 3) := by decide +kernel
theorem dJ2_getChar_3b067_10 : decode cJ2_getChar_3b067 10 = .ok (.iload_n 1, 1) := by decide +kernel
theorem dJ2_getChar_3b067_11 : decode cJ2_getChar_3b067 11 = .ok (.aload_n 0, 1) := by decide +kernel
theorem dJ2_getChar_3b067_12 : decode cJ2_getChar_3b067 12 = .ok (.invokestatic 48, 3) := by decide +kernel
theorem dJ2_getChar_3b067_15 : decode cJ2_getChar_3b067 15 = .ok (.if_icmp .lt 13, 3) := by decide +kernel
theorem dJ2_getChar_3b067_18 : decode cJ2_getChar_3b067 18 = .ok (.new 52, 3) := by decide +kernel
theorem dJ2_getChar_3b067_21 : decode cJ2_getChar_3b067 21 = .ok (.dup, 1) := by decide +kernel
theorem dJ2_getChar_3b067_22 : decode cJ2_getChar_3b067 22 = .ok (.ldc 54, 2) := by decide +kernel
theorem dJ2_getChar_3b067_24 : decode cJ2_getChar_3b067 24 = .ok (.invokespecial 56, 3) := by decide +kernel
theorem dJ2_getChar_3b067_27 : decode cJ2_getChar_3b067 27 = .ok (.athrow, 1) := by decide +kernel
theorem dJ2_getChar_3b067_28 : decode cJ2_getChar_3b067 28 = .ok (.iload_n 1, 1) := by decide +kernel
theorem dJ2_getChar_3b067_29 : decode cJ2_getChar_3b067 29 = .ok (.iconst 1, 1) := by decide +kernel
theorem dJ2_getChar_3b067_30 : decode cJ2_getChar_3b067 30 = .ok (.ishl, 1) := by decide +kernel
theorem dJ2_getChar_3b067_31 : decode cJ2_getChar_3b067 31 = .ok (.istore_n 1, 1) := by decide +kernel
theorem dJ2_getChar_3b067_32 : decode cJ2_getChar_3b067 32 = .ok (.aload_n 0, 1) := by decide +kernel
theorem dJ2_getChar_3b067_33 : decode cJ2_getChar_3b067 33 = .ok (.iload_n 1, 1) := by decide +kernel
theorem dJ2_getChar_3b067_34 : decode cJ2_getChar_3b067 34 = .ok (.iinc 1 1, 3) := by decide +kernel
theorem dJ2_getChar_3b067_37 : decode cJ2_getChar_3b067 37 = .ok (.baload, 1) := by decide +kernel
theorem dJ2_getChar_3b067_38 : decode cJ2_getChar_3b067 38 = .ok (.sipush 255, 3) := by decide +kernel
theorem dJ2_getChar_3b067_41 : decode cJ2_getChar_3b067 41 = .ok (.iand, 1) := by decide +kernel
theorem dJ2_getChar_3b067_42 : decode cJ2_getChar_3b067 42 = .ok (.getstatic 59, 3) := by decide +kernel
theorem dJ2_getChar_3b067_45 : decode cJ2_getChar_3b067 45 = .ok (.ishl, 1) := by decide +kernel
theorem dJ2_getChar_3b067_46 : decode cJ2_getChar_3b067 46 = .ok (.aload_n 0, 1) := by decide +kernel
theorem dJ2_getChar_3b067_47 : decode cJ2_getChar_3b067 47 = .ok (.iload_n 1, 1) := by decide +kernel
theorem dJ2_getChar_3b067_48 : decode cJ2_getChar_3b067 48 = .ok (.baload, 1) := by decide +kernel
theorem dJ2_getChar_3b067_49 : decode cJ2_getChar_3b067 49 = .ok (.sipush 255, 3) := by decide +kernel
theorem dJ2_getChar_3b067_52 : decode cJ2_getChar_3b067 52 = .ok (.iand, 1) := by decide +kernel
theorem dJ2_getChar_3b067_53 : decode cJ2_getChar_3b067 53 = .ok (.getstatic 63, 3) := by decide +kernel
theorem dJ2_getChar_3b067_56 : decode cJ2_getChar_3b067 56 = .ok (.ishl, 1) := by decide +kernel
theorem dJ2_getChar_3b067_57 : decode cJ2_getChar_3b067 57 = .ok (.ior, 1) := by decide +kernel
theorem dJ2_getChar_3b067_58 : decode cJ2_getChar_3b067 58 = .ok (.i2c, 1) := by decide +kernel
theorem dJ2_getChar_3b067_59 : decode cJ2_getChar_3b067 59 = .ok (.ireturn, 1) := by decide +kernel
theorem dJ2_length_9d52b_0 : decode cJ2_length_9d52b 0 = .ok (.aload_n 0, 1) := by decide +kernel
theorem dJ2_length_9d52b_1 : decode cJ2_length_9d52b 1 = .ok (.arraylength, 1) := by decide +kernel
theorem dJ2_length_9d52b_2 : decode cJ2_length_9d52b 2 = .ok (.iconst 1, 1) := by decide +kernel
theorem dJ2_length_9d52b_3 : decode cJ2_length_9d52b 3 = .ok (.ishr, 1) := by decide +kernel
theorem dJ2_length_9d52b_4 : decode cJ2_length_9d52b 4 = .ok (.ireturn, 1) := by decide +kernel
theorem dJ2_charAt_3b067_0 : decode cJ2_charAt_3b067 0 = .ok (.iload_n 1, 1) := by decide +kernel
theorem dJ2_charAt_3b067_1 : decode cJ2_charAt_3b067 1 = .ok (.aload_n 0, 1) := by decide +kernel
theorem dJ2_charAt_3b067_2 : decode cJ2_charAt_3b067 2 = .ok (.invokestatic 67, 3) := by decide +kernel
theorem dJ2_charAt_3b067_5 : decode cJ2_charAt_3b067 5 = .ok (.aload_n 0, 1) := by decide +kernel
theorem dJ2_charAt_3b067_6 : decode cJ2_charAt_3b067 6 = .ok (.iload_n 1, 1) := by decide +kernel
theorem dJ2_charAt_3b067_7 : decode cJ2_charAt_3b067 7 = .ok (.invokestatic 71, 3) := by decide +kernel
theorem dJ2_charAt_3b067_10 : decode cJ2_charAt_3b067 10 = .ok (.ireturn, 1) := by decide +kernel
theorem dJ2_checkIndex_2214a_0 : decode cJ2_checkIndex_2214a 0 = .ok (.iload_n 0, 1) := by decide +kernel
theorem dJ2_checkIndex_2214a_1 : decode cJ2_checkIndex_2214a 1 = .ok (.aload_n 1, 1) := by decide +kernel
theorem dJ2_checkIndex_2214a_2 : decode cJ2_checkIndex_2214a 2 = .ok (.invokestatic 48, 3) := by decide +kernel
theorem dJ2_checkIndex_2214a_5 : decode cJ2_checkIndex_2214a 5 = .ok (.invokestatic 414, 3) := by decide +kernel
theorem dJ2_checkIndex_2214a_8 : decode cJ2_checkIndex_2214a 8 = .ok (.return_, 1) := by decide +kernel
theorem dJ7_fill_53178_0 : decode cJ7_fill_53178 0 = .ok (.iconst 0, 1) := by decide +kernel
theorem dJ7_fill_53178_1 : decode cJ7_fill_53178 1 = .ok (.istore_n 2, 1) := by decide +kernel
theorem dJ7_fill_53178_2 : decode cJ7_fill_53178 2 = .ok (.aload_n 0, 1) := by decide +kernel
theorem dJ7_fill_53178_3 : decode cJ7_fill_53178 3 = .ok (.arraylength, 1) := by decide +kernel
theorem dJ7_fill_53178_4 : decode cJ7_fill_53178 4 = .ok (.istore_n 3, 1) := by decide +kernel
theorem dJ7_fill_53178_5 : decode cJ7_fill_53178 5 = .ok (.iload_n 2, 1) := by decide +kernel
theorem dJ7_fill_53178_6 : decode cJ7_fill_53178 6 = .ok (.iload_n 3, 1) := by decide +kernel
theorem dJ7_fill_53178_7 : decode cJ7_fill_53178 7 = .ok (.if_icmp .ge 13, 3) := by decide +kernel
theorem dJ7_fill_53178_10 : decode cJ7_fill_53178 10 = .ok (.aload_n 0, 1) := by decide +kernel
theorem dJ7_fill_53178_11 : decode cJ7_fill_53178 11 = .ok (.iload_n 2, 1) := by decide +kernel
theorem dJ7_fill_53178_12 : decode cJ7_fill_53178 12 = .ok (.iload_n 1, 1) := by decide +kernel
theorem dJ7_fill_53178_13 : decode cJ7_fill_53178 13 = .ok (.iastore, 1) := by decide +kernel
theorem dJ7_fill_53178_14 : decode cJ7_fill_53178 14 = .ok (.iinc 2 1, 3) := by decide +kernel
theorem dJ7_fill_53178_17 : decode cJ7_fill_53178 17 = .ok (.goto (-12), 3) := by decide +kernel
theorem dJ7_fill_53178_20 : decode cJ7_fill_53178 20 = .ok (.return_, 1) := by decide +kernel
theorem dJ3_checkIndex_8e157_0 : decode cJ3_checkIndex_8e157 0 = .ok (.iload_n 0, 1) := by decide +kernel
theorem dJ3_checkIndex_8e157_1 : decode cJ3_checkIndex_8e157 1 = .ok (.ifCond .lt 8, 3) := by decide +kernel
theorem dJ3_checkIndex_8e157_4 : decode cJ3_checkIndex_8e157 4 = .ok (.iload_n 0, 1) := by decide +kernel
theorem dJ3_checkIndex_8e157_5 : decode cJ3_checkIndex_8e157 5 = .ok (.iload_n 1, 1) := by decide +kernel
theorem dJ3_checkIndex_8e157_6 : decode cJ3_checkIndex_8e157 6 = .ok (.if_icmp .lt 10, 3) := by decide +kernel
theorem dJ3_checkIndex_8e157_9 : decode cJ3_checkIndex_8e157 9 = .ok (.aload_n 2, 1) := by decide +kernel
theorem dJ3_checkIndex_8e157_10 : decode cJ3_checkIndex_8e157 10 = .ok (.iload_n 0, 1) := by decide +kernel
theorem dJ3_checkIndex_8e157_11 : decode cJ3_checkIndex_8e157 11 = .ok (.iload_n 1, 1) := by decide +kernel
theorem dJ3_checkIndex_8e157_12 : decode cJ3_checkIndex_8e157 12 = .ok (.invokestatic 95, 3) := by decide +kernel
theorem dJ3_checkIndex_8e157_15 : decode cJ3_checkIndex_8e157 15 = .ok (.athrow, 1) := by decide +kernel
theorem dJ3_checkIndex_8e157_16 : decode cJ3_checkIndex_8e157 16 = .ok (.iload_n 0, 1) := by decide +kernel
theorem dJ3_checkIndex_8e157_17 : decode cJ3_checkIndex_8e157 17 = .ok (.ireturn, 1) := by decide +kernel
