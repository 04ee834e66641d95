theorem dX8_tarry_61 : decode cX8_tarry 61 = .ok (.iaload, 1) := by decide +kernel
theorem dX8_tarry_62 : decode cX8_tarry 62 = .ok (.ireturn, 1) := by decide +kernel
theorem dX8_give_0 : decode cX8_give 0 = .ok (.aload_n 0, 1) := by decide +kernel
theorem dX8_give_1 : decode cX8_give 1 = .ok (.iload_n 1, 1) := by decide +kernel
theorem dX8_give_2 : decode cX8_give 2 = .ok (.invokevirtual 108, 3) := by decide +kernel
theorem dX8_give_5 : decode cX8_give 5 = .ok (.ifCond .eq 11, 3) := by decide +kernel
theorem dX8_give_8 : decode cX8_give 8 = .ok (.aload_n 0, 1) := by decide +kernel
theorem dX8_give_9 : decode cX8_give 9 = .ok (.iload_n 2, 1) := by decide +kernel
theorem dX8_give_10 : decode cX8_give 10 = .ok (.invokevirtual 145, 3) := by decide +kernel
theorem dX8_give_13 : decode cX8_give 13 = .ok (.ifCond .ne 9, 3) := by decide +kernel
theorem dX8_give_16 : decode cX8_give 16 = .ok (.aload_n 0, 1) := by decide +kernel
theorem dX8_give_17 : decode cX8_give 17 = .ok (.iconst (-1), 1) := by decide +kernel
theorem dX8_give_18 : decode cX8_give 18 = .ok (.invokevirtual 71, 3) := by decide +kernel
theorem dX8_give_21 : decode cX8_give 21 = .ok (.ireturn, 1) := by decide +kernel
theorem dX8_give_22 : decode cX8_give 22 = .ok (.aload_n 0, 1) := by decide +kernel
theorem dX8_give_23 : decode cX8_give 23 = .ok (.iload_n 1, 1) := by decide +kernel
theorem dX8_give_24 : decode cX8_give 24 = .ok (.iload_n 2, 1) := by decide +kernel
theorem dX8_give_25 : decode cX8_give 25 = .ok (.invokevirtual 151, 3) := by decide +kernel
theorem dX8_give_28 : decode cX8_give 28 = .ok (.ifCond .ne 10, 3) := by decide +kernel
theorem dX8_give_31 : decode cX8_give 31 = .ok (.aload_n 0, 1) := by decide +kernel
theorem dX8_give_32 : decode cX8_give 32 = .ok (.bipush (-3), 2) := by decide +kernel
theorem dX8_give_34 : decode cX8_give 34 = .ok (.invokevirtual 71, 3) := by decide +kernel
theorem dX8_give_37 : decode cX8_give 37 = .ok (.ireturn, 1) := by decide +kernel
theorem dX8_give_38 : decode cX8_give 38 = .ok (.aload_n 0, 1) := by decide +kernel
theorem dX8_give_39 : decode cX8_give 39 = .ok (.getfield 31, 3) := by decide +kernel
theorem dX8_give_42 : decode cX8_give 42 = .ok (.iload_n 2, 1) := by decide +kernel
theorem dX8_give_43 : decode cX8_give 43 = .ok (.aaload, 1) := by decide +kernel
theorem dX8_give_44 : decode cX8_give 44 = .ok (.bipush 9, 2) := by decide +kernel
theorem dX8_give_46 : decode cX8_give 46 = .ok (.aload_n 0, 1) := by decide +kernel
theorem dX8_give_47 : decode cX8_give 47 = .ok (.getfield 28, 3) := by decide +kernel
theorem dX8_give_50 : decode cX8_give 50 = .ok (.iload_n 1, 1) := by decide +kernel
theorem dX8_give_51 : decode cX8_give 51 = .ok (.aaload, 1) := by decide +kernel
theorem dX8_give_52 : decode cX8_give 52 = .ok (.bipush 6, 2) := by decide +kernel
theorem dX8_give_54 : decode cX8_give 54 = .ok (.iaload, 1) := by decide +kernel
theorem dX8_give_55 : decode cX8_give 55 = .ok (.iastore, 1) := by decide +kernel
theorem dX8_give_56 : decode cX8_give 56 = .ok (.aload_n 0, 1) := by decide +kernel
theorem dX8_give_57 : decode cX8_give 57 = .ok (.getfield 28, 3) := by decide +kernel
theorem dX8_give_60 : decode cX8_give 60 = .ok (.iload_n 1, 1) := by decide +kernel
theorem dX8_give_61 : decode cX8_give 61 = .ok (.aaload, 1) := by decide +kernel
theorem dX8_give_62 : decode cX8_give 62 = .ok (.bipush 6, 2) := by decide +kernel
theorem dX8_give_64 : decode cX8_give 64 = .ok (.iaload, 1) := by decide +kernel
theorem dX8_give_65 : decode cX8_give 65 = .ok (.ireturn, 1) := by decide +kernel
theorem dX8_there_0 : decode cX8_there 0 = .ok (.iconst 0, 1) := by decide +kernel
theorem dX8_there_1 : decode cX8_there 1 = .ok (.istore_n 1, 1) := by decide +kernel
theorem dX8_there_2 : decode cX8_there 2 = .ok (.iconst 0, 1) := by decide +kernel
theorem dX8_there_3 : decode cX8_there 3 = .ok (.istore_n 2, 1) := by decide +kernel
theorem dX8_there_4 : decode cX8_there 4 = .ok (.iload_n 2, 1) := by decide +kernel
theorem dX8_there_5 : decode cX8_there 5 = .ok (.aload_n 0, 1) := by decide +kernel
theorem dX8_there_6 : decode cX8_there 6 = .ok (.getfield 68, 3) := by decide +kernel
theorem dX8_there_9 : decode cX8_there 9 = .ok (.if_icmp .ge 57, 3) := by decide +kernel
theorem dX8_there_12 : decode cX8_there 12 = .ok (.iload_n 1, 1) := by decide +kernel
theorem dX8_there_13 : decode cX8_there 13 = .ok (.aload_n 0, 1) := by decide +kernel
theorem dX8_there_14 : decode cX8_there 14 = .ok (.getfield 31, 3) := by decide +kernel
theorem dX8_there_17 : decode cX8_there 17 = .ok (.iload_n 2, 1) := by decide +kernel
theorem dX8_there_18 : decode cX8_there 18 = .ok (.aaload, 1) := by decide +kernel
theorem dX8_there_19 : decode cX8_there 19 = .ok (.bipush 7, 2) := by decide +kernel
theorem dX8_there_21 : decode cX8_there 21 = .ok (.iaload, 1) := by decide +kernel
theorem dX8_there_22 : decode cX8_there 22 = .ok (.aload_n 0, 1) := by decide +kernel
theorem dX8_there_23 : decode cX8_there 23 = .ok (.getfield 31, 3) := by decide +kernel
theorem dX8_there_26 : decode cX8_there 26 = .ok (.iload_n 2, 1) := by decide +kernel
theorem dX8_there_27 : decode cX8_there 27 = .ok (.aaload, 1) := by decide +kernel
theorem dX8_there_28 : decode cX8_there 28 = .ok (.iconst 3, 1) := by decide +kernel
theorem dX8_there_29 : decode cX8_there 29 = .ok (.iaload, 1) := by decide +kernel
theorem dX8_there_30 : decode cX8_there 30 = .ok (.if_icmp .ne 27, 3) := by decide +kernel
theorem dX8_there_33 : decode cX8_there 33 = .ok (.aload_n 0, 1) := by decide +kernel
theorem dX8_there_34 : decode cX8_there 34 = .ok (.getfield 31, 3) := by decide +kernel
theorem dX8_there_37 : decode cX8_there 37 = .ok (.iload_n 2, 1) := by decide +kernel
theorem dX8_there_38 : decode cX8_there 38 = .ok (.aaload, 1) := by decide +kernel
theorem dX8_there_39 : decode cX8_there 39 = .ok (.bipush 8, 2) := by decide +kernel
theorem dX8_there_41 : decode cX8_there 41 = .ok (.iaload, 1) := by decide +kernel
theorem dX8_there_42 : decode cX8_there 42 = .ok (.aload_n 0, 1) := by decide +kernel
theorem dX8_there_43 : decode cX8_there 43 = .ok (.getfield 31, 3) := by decide +kernel
theorem dX8_there_46 : decode cX8_there 46 = .ok (.iload_n 2, 1) := by decide +kernel
theorem dX8_there_47 : decode cX8_there 47 = .ok (.aaload, 1) := by decide +kernel
theorem dX8_there_48 : decode cX8_there 48 = .ok (.iconst 5, 1) := by decide +kernel
theorem dX8_there_49 : decode cX8_there 49 = .ok (.iaload, 1) := by decide +kernel
theorem dX8_there_50 : decode cX8_there 50 = .ok (.if_icmp .gt 7, 3) := by decide +kernel
theorem dX8_there_53 : decode cX8_there 53 = .ok (.iconst 1, 1) := by decide +kernel
theorem dX8_there_54 : decode cX8_there 54 = .ok (.goto 4, 3) := by decide +kernel
theorem dX8_there_57 : decode cX8_there 57 = .ok (.iconst 0, 1) := by decide +kernel
theorem dX8_there_58 : decode cX8_there 58 = .ok (.iadd, 1) := by decide +kernel
theorem dX8_there_59 : decode cX8_there 59 = .ok (.istore_n 1, 1) := by decide +kernel
theorem dX8_there_60 : decode cX8_there 60 = .ok (.iinc 2 1, 3) := by decide +kernel
theorem dX8_there_63 : decode cX8_there 63 = .ok (.goto (-59), 3) := by decide +kernel
theorem dX8_there_66 : decode cX8_there 66 = .ok (.iload_n 1, 1) := by decide +kernel
theorem dX8_there_67 : decode cX8_there 67 = .ok (.ireturn, 1) := by decide +kernel
theorem dX8_findWays_0 : decode cX8_findWays 0 = .ok (.aload_n 0, 1) := by decide +kernel
theorem dX8_findWays_1 : decode cX8_findWays 1 = .ok (.invokevirtual 139, 3) := by decide +kernel
theorem dX8_findWays_4 : decode cX8_findWays 4 = .ok (.iconst 0, 1) := by decide +kernel
theorem dX8_findWays_5 : decode cX8_findWays 5 = .ok (.istore_n 1, 1) := by decide +kernel
theorem dX8_findWays_6 : decode cX8_findWays 6 = .ok (.iload_n 1, 1) := by decide +kernel
theorem dX8_findWays_7 : decode cX8_findWays 7 = .ok (.aload_n 0, 1) := by decide +kernel
theorem dX8_findWays_8 : decode cX8_findWays 8 = .ok (.getfield 65, 3) := by decide +kernel
theorem dX8_findWays_11 : decode cX8_findWays 11 = .ok (.if_icmp .ge 199, 3) := by decide +kernel
theorem dX8_findWays_14 : decode cX8_findWays 14 = .ok (.aload_n 0, 1) := by decide +kernel
theorem dX8_findWays_15 : decode cX8_findWays 15 = .ok (.getfield 28, 3) := by decide +kernel
theorem dX8_findWays_18 : decode cX8_findWays 18 = .ok (.iload_n 1, 1) := by decide +kernel
theorem dX8_findWays_19 : decode cX8_findWays 19 = .ok (.aaload, 1) := by decide +kernel
theorem dX8_findWays_20 : decode cX8_findWays 20 = .ok (.iconst 0, 1) := by decide +kernel
theorem dX8_findWays_21 : decode cX8_findWays 21 = .ok (.iaload, 1) := by decide +kernel
theorem dX8_findWays_22 : decode cX8_findWays 22 = .ok (.istore_n 2, 1) := by decide +kernel
theorem dX8_findWays_23 : decode cX8_findWays 23 = .ok (.aload_n 0, 1) := by decide +kernel
theorem dX8_findWays_24 : decode cX8_findWays 24 = .ok (.getfield 28, 3) := by decide +kernel
theorem dX8_findWays_27 : decode cX8_findWays 27 = .ok (.iload_n 1, 1) := by decide +kernel
theorem dX8_findWays_28 : decode cX8_findWays 28 = .ok (.aaload, 1) := by decide +kernel
theorem dX8_findWays_29 : decode cX8_findWays 29 = .ok (.iconst 1, 1) := by decide +kernel
theorem dX8_findWays_30 : decode cX8_findWays 30 = .ok (.iaload, 1) := by decide +kernel
theorem dX8_findWays_31 : decode cX8_findWays 31 = .ok (.istore_n 3, 1) := by decide +kernel
theorem dX8_findWays_32 : decode cX8_findWays 32 = .ok (.aload_n 0, 1) := by decide +kernel
theorem dX8_findWays_33 : decode cX8_findWays 33 = .ok (.getfield 28, 3) := by decide +kernel
theorem dX8_findWays_36 : decode cX8_findWays 36 = .ok (.iload_n 1, 1) := by decide +kernel
theorem dX8_findWays_37 : decode cX8_findWays 37 = .ok (.aaload, 1) := by decide +kernel
theorem dX8_findWays_38 : decode cX8_findWays 38 = .ok (.iconst 2, 1) := by decide +kernel
theorem dX8_findWays_39 : decode cX8_findWays 39 = .ok (.iaload, 1) := by decide +kernel
theorem dX8_findWays_40 : decode cX8_findWays 40 = .ok (.istore 4, 2) := by decide +kernel
theorem dX8_findWays_42 : decode cX8_findWays 42 = .ok (.aload_n 0, 1) := by decide +kernel
theorem dX8_findWays_43 : decode cX8_findWays 43 = .ok (.getfield 46, 3) := by decide +kernel
theorem dX8_findWays_46 : decode cX8_findWays 46 = .ok (.iload_n 1, 1) := by decide +kernel
theorem dX8_findWays_47 : decode cX8_findWays 47 = .ok (.iconst 0, 1) := by decide +kernel
theorem dX8_findWays_48 : decode cX8_findWays 48 = .ok (.iastore, 1) := by decide +kernel
theorem dX8_findWays_49 : decode cX8_findWays 49 = .ok (.aload_n 0, 1) := by decide +kernel
theorem dX8_findWays_50 : decode cX8_findWays 50 = .ok (.getfield 37, 3) := by decide +kernel
theorem dX8_findWays_53 : decode cX8_findWays 53 = .ok (.iload_n 2, 1) := by decide +kernel
theorem dX8_findWays_54 : decode cX8_findWays 54 = .ok (.aaload, 1) := by decide +kernel
theorem dX8_findWays_55 : decode cX8_findWays 55 = .ok (.iload_n 3, 1) := by decide +kernel
theorem dX8_findWays_56 : decode cX8_findWays 56 = .ok (.iaload, 1) := by decide +kernel
theorem dX8_findWays_57 : decode cX8_findWays 57 = .ok (.ldc 138, 2) := by decide +kernel
theorem dX8_findWays_59 : decode cX8_findWays 59 = .ok (.if_icmp .ge 145, 3) := by decide +kernel
theorem dX8_findWays_62 : decode cX8_findWays 62 = .ok (.aload_n 0, 1) := by decide +kernel
theorem dX8_findWays_63 : decode cX8_findWays 63 = .ok (.getfield 40, 3) := by decide +kernel
theorem dX8_findWays_66 : decode cX8_findWays 66 = .ok (.iload_n 1, 1) := by decide +kernel
theorem dX8_findWays_67 : decode cX8_findWays 67 = .ok (.aaload, 1) := by decide +kernel
theorem dX8_findWays_68 : decode cX8_findWays 68 = .ok (.iconst 0, 1) := by decide +kernel
theorem dX8_findWays_69 : decode cX8_findWays 69 = .ok (.iload_n 2, 1) := by decide +kernel
theorem dX8_findWays_70 : decode cX8_findWays 70 = .ok (.iastore, 1) := by decide +kernel
theorem dX8_findWays_71 : decode cX8_findWays 71 = .ok (.aload_n 0, 1) := by decide +kernel
theorem dX8_findWays_72 : decode cX8_findWays 72 = .ok (.getfield 43, 3) := by decide +kernel
theorem dX8_findWays_75 : decode cX8_findWays 75 = .ok (.iload_n 1, 1) := by decide +kernel
theorem dX8_findWays_76 : decode cX8_findWays 76 = .ok (.aaload, 1) := by decide +kernel
theorem dX8_findWays_77 : decode cX8_findWays 77 = .ok (.iconst 0, 1) := by decide +kernel
theorem dX8_findWays_78 : decode cX8_findWays 78 = .ok (.iload 4, 2) := by decide +kernel
theorem dX8_findWays_80 : decode cX8_findWays 80 = .ok (.iastore, 1) := by decide +kernel
theorem dX8_findWays_81 : decode cX8_findWays 81 = .ok (.aload_n 0, 1) := by decide +kernel
theorem dX8_findWays_82 : decode cX8_findWays 82 = .ok (.getfield 46, 3) := by decide +kernel
theorem dX8_findWays_85 : decode cX8_findWays 85 = .ok (.iload_n 1, 1) := by decide +kernel
theorem dX8_findWays_86 : decode cX8_findWays 86 = .ok (.iconst 1, 1) := by decide +kernel
theorem dX8_findWays_87 : decode cX8_findWays 87 = .ok (.iastore, 1) := by decide +kernel
theorem dX8_findWays_88 : decode cX8_findWays 88 = .ok (.iload_n 2, 1) := by decide +kernel
theorem dX8_findWays_89 : decode cX8_findWays 89 = .ok (.iload_n 3, 1) := by decide +kernel
theorem dX8_findWays_90 : decode cX8_findWays 90 = .ok (.if_icmp .eq 114, 3) := by decide +kernel
theorem dX8_findWays_93 : decode cX8_findWays 93 = .ok (.iconst 0, 1) := by decide +kernel
theorem dX8_findWays_94 : decode cX8_findWays 94 = .ok (.istore 5, 2) := by decide +kernel
theorem dX8_findWays_96 : decode cX8_findWays 96 = .ok (.iload 5, 2) := by decide +kernel
theorem dX8_findWays_98 : decode cX8_findWays 98 = .ok (.iload_n 2, 1) := by decide +kernel
theorem dX8_findWays_99 : decode cX8_findWays 99 = .ok (.if_icmp .eq 45, 3) := by decide +kernel
theorem dX8_findWays_102 : decode cX8_findWays 102 = .ok (.aload_n 0, 1) := by decide +kernel
theorem dX8_findWays_103 : decode cX8_findWays 103 = .ok (.getfield 25, 3) := by decide +kernel
theorem dX8_findWays_106 : decode cX8_findWays 106 = .ok (.iload_n 2, 1) := by decide +kernel
theorem dX8_findWays_107 : decode cX8_findWays 107 = .ok (.aaload, 1) := by decide +kernel
theorem dX8_findWays_108 : decode cX8_findWays 108 = .ok (.iload 5, 2) := by decide +kernel
theorem dX8_findWays_110 : decode cX8_findWays 110 = .ok (.iaload, 1) := by decide +kernel
theorem dX8_findWays_111 : decode cX8_findWays 111 = .ok (.ifCond .eq 33, 3) := by decide +kernel
theorem dX8_findWays_114 : decode cX8_findWays 114 = .ok (.aload_n 0, 1) := by decide +kernel
theorem dX8_findWays_115 : decode cX8_findWays 115 = .ok (.getfield 25, 3) := by decide +kernel
theorem dX8_findWays_118 : decode cX8_findWays 118 = .ok (.iload_n 2, 1) := by decide +kernel
theorem dX8_findWays_119 : decode cX8_findWays 119 = .ok (.aaload, 1) := by decide +kernel
theorem dX8_findWays_120 : decode cX8_findWays 120 = .ok (.iload 5, 2) := by decide +kernel
theorem dX8_findWays_122 : decode cX8_findWays 122 = .ok (.iaload, 1) := by decide +kernel
theorem dX8_findWays_123 : decode cX8_findWays 123 = .ok (.aload_n 0, 1) := by decide +kernel
theorem dX8_findWays_124 : decode cX8_findWays 124 = .ok (.getfield 37, 3) := by decide +kernel
theorem dX8_findWays_127 : decode cX8_findWays 127 = .ok (.iload 5, 2) := by decide +kernel
theorem dX8_findWays_129 : decode cX8_findWays 129 = .ok (.aaload, 1) := by decide +kernel
theorem dX8_findWays_130 : decode cX8_findWays 130 = .ok (.iload_n 3, 1) := by decide +kernel
theorem dX8_findWays_131 : decode cX8_findWays 131 = .ok (.iaload, 1) := by decide +kernel
theorem dX8_findWays_132 : decode cX8_findWays 132 = .ok (.iadd, 1) := by decide +kernel
theorem dX8_findWays_133 : decode cX8_findWays 133 = .ok (.aload_n 0, 1) := by decide +kernel
theorem dX8_findWays_134 : decode cX8_findWays 134 = .ok (.getfield 37, 3) := by decide +kernel
theorem dX8_findWays_137 : decode cX8_findWays 137 = .ok (.iload_n 2, 1) := by decide +kernel
theorem dX8_findWays_138 : decode cX8_findWays 138 = .ok (.aaload, 1) := by decide +kernel
theorem dX8_findWays_139 : decode cX8_findWays 139 = .ok (.iload_n 3, 1) := by decide +kernel
theorem dX8_findWays_140 : decode cX8_findWays 140 = .ok (.iaload, 1) := by decide +kernel
theorem dX8_findWays_141 : decode cX8_findWays 141 = .ok (.if_icmp .eq 9, 3) := by decide +kernel
theorem dX8_findWays_144 : decode cX8_findWays 144 = .ok (.iinc 5 1, 3) := by decide +kernel
theorem dX8_findWays_147 : decode cX8_findWays 147 = .ok (.goto (-51), 3) := by decide +kernel
theorem dX8_findWays_150 : decode cX8_findWays 150 = .ok (.iload 4, 2) := by decide +kernel
theorem dX8_findWays_152 : decode cX8_findWays 152 = .ok (.aload_n 0, 1) := by decide +kernel
theorem dX8_findWays_153 : decode cX8_findWays 153 = .ok (.getfield 25, 3) := by decide +kernel
theorem dX8_findWays_156 : decode cX8_findWays 156 = .ok (.iload_n 2, 1) := by decide +kernel
theorem dX8_findWays_157 : decode cX8_findWays 157 = .ok (.aaload, 1) := by decide +kernel
theorem dX8_findWays_158 : decode cX8_findWays 158 = .ok (.iload 5, 2) := by decide +kernel
theorem dX8_findWays_160 : decode cX8_findWays 160 = .ok (.iaload, 1) := by decide +kernel
theorem dX8_findWays_161 : decode cX8_findWays 161 = .ok (.iadd, 1) := by decide +kernel
theorem dX8_findWays_162 : decode cX8_findWays 162 = .ok (.istore 4, 2) := by decide +kernel
theorem dX8_findWays_164 : decode cX8_findWays 164 = .ok (.iload 5, 2) := by decide +kernel
theorem dX8_findWays_166 : decode cX8_findWays 166 = .ok (.istore_n 2, 1) := by decide +kernel
theorem dX8_findWays_167 : decode cX8_findWays 167 = .ok (.aload_n 0, 1) := by decide +kernel
theorem dX8_findWays_168 : decode cX8_findWays 168 = .ok (.getfield 40, 3) := by decide +kernel
theorem dX8_findWays_171 : decode cX8_findWays 171 = .ok (.iload_n 1, 1) := by decide +kernel
theorem dX8_findWays_172 : decode cX8_findWays 172 = .ok (.aaload, 1) := by decide +kernel
theorem dX8_findWays_173 : decode cX8_findWays 173 = .ok (.aload_n 0, 1) := by decide +kernel
theorem dX8_findWays_174 : decode cX8_findWays 174 = .ok (.getfield 46, 3) := by decide +kernel
theorem dX8_findWays_177 : decode cX8_findWays 177 = .ok (.iload_n 1, 1) := by decide +kernel
theorem dX8_findWays_178 : decode cX8_findWays 178 = .ok (.iaload, 1) := by decide +kernel
theorem dX8_findWays_179 : decode cX8_findWays 179 = .ok (.iload_n 2, 1) := by decide +kernel
theorem dX8_findWays_180 : decode cX8_findWays 180 = .ok (.iastore, 1) := by decide +kernel
theorem dX8_findWays_181 : decode cX8_findWays 181 = .ok (.aload_n 0, 1) := by decide +kernel
theorem dX8_findWays_182 : decode cX8_findWays 182 = .ok (.getfield 43, 3) := by decide +kernel
theorem dX8_findWays_185 : decode cX8_findWays 185 = .ok (.iload_n 1, 1) := by decide +kernel
theorem dX8_findWays_186 : decode cX8_findWays 186 = .ok (.aaload, 1) := by decide +kernel
theorem dX8_findWays_187 : decode cX8_findWays 187 = .ok (.aload_n 0, 1) := by decide +kernel
theorem dX8_findWays_188 : decode cX8_findWays 188 = .ok (.getfield 46, 3) := by decide +kernel
theorem dX8_findWays_191 : decode cX8_findWays 191 = .ok (.iload_n 1, 1) := by decide +kernel
theorem dX8_findWays_192 : decode cX8_findWays 192 = .ok (.dup2, 1) := by decide +kernel
theorem dX8_findWays_193 : decode cX8_findWays 193 = .ok (.iaload, 1) := by decide +kernel
theorem dX8_findWays_194 : decode cX8_findWays 194 = .ok (.dup_x2, 1) := by decide +kernel
theorem dX8_findWays_195 : decode cX8_findWays 195 = .ok (.iconst 1, 1) := by decide +kernel
theorem dX8_findWays_196 : decode cX8_findWays 196 = .ok (.iadd, 1) := by decide +kernel
theorem dX8_findWays_197 : decode cX8_findWays 197 = .ok (.iastore, 1) := by decide +kernel
theorem dX8_findWays_198 : decode cX8_findWays 198 = .ok (.iload 4, 2) := by decide +kernel
theorem dX8_findWays_200 : decode cX8_findWays 200 = .ok (.iastore, 1) := by decide +kernel
theorem dX8_findWays_201 : decode cX8_findWays 201 = .ok (.goto (-113), 3) := by decide +kernel
theorem dX8_findWays_204 : decode cX8_findWays 204 = .ok (.iinc 1 1, 3) := by decide +kernel
theorem dX8_findWays_207 : decode cX8_findWays 207 = .ok (.goto (-201), 3) := by decide +kernel
theorem dX8_findWays_210 : decode cX8_findWays 210 = .ok (.return_, 1) := by decide +kernel
theorem dX8_mayInMind_0 : decode cX8_mayInMind 0 = .ok (.aload_n 0, 1) := by decide +kernel
theorem dX8_mayInMind_1 : decode cX8_mayInMind 1 = .ok (.iload_n 2, 1) := by decide +kernel
theorem dX8_mayInMind_2 : decode cX8_mayInMind 2 = .ok (.iload_n 3, 1) := by decide +kernel
theorem dX8_mayInMind_3 : decode cX8_mayInMind 3 = .ok (.invokevirtual 158, 3) := by decide +kernel
theorem dX8_mayInMind_6 : decode cX8_mayInMind 6 = .ok (.ifCond .eq 27, 3) := by decide +kernel
theorem dX8_mayInMind_9 : decode cX8_mayInMind 9 = .ok (.iload_n 2, 1) := by decide +kernel
theorem dX8_mayInMind_10 : decode cX8_mayInMind 10 = .ok (.iload 5, 2) := by decide +kernel
theorem dX8_mayInMind_12 : decode cX8_mayInMind 12 = .ok (.if_icmp .eq 17, 3) := by decide +kernel
theorem dX8_mayInMind_15 : decode cX8_mayInMind 15 = .ok (.aload_n 0, 1) := by decide +kernel
theorem dX8_mayInMind_16 : decode cX8_mayInMind 16 = .ok (.iload_n 1, 1) := by decide +kernel
theorem dX8_mayInMind_17 : decode cX8_mayInMind 17 = .ok (.iload_n 2, 1) := by decide +kernel
theorem dX8_mayInMind_18 : decode cX8_mayInMind 18 = .ok (.iload_n 3, 1) := by decide +kernel
theorem dX8_mayInMind_19 : decode cX8_mayInMind 19 = .ok (.iload 4, 2) := by decide +kernel
theorem dX8_mayInMind_21 : decode cX8_mayInMind 21 = .ok (.bipush (-9), 2) := by decide +kernel
theorem dX8_mayInMind_23 : decode cX8_mayInMind 23 = .ok (.invokevirtual 161, 3) := by decide +kernel
theorem dX8_mayInMind_26 : decode cX8_mayInMind 26 = .ok (.ifCond .eq 7, 3) := by decide +kernel
theorem dX8_mayInMind_29 : decode cX8_mayInMind 29 = .ok (.iconst 1, 1) := by decide +kernel
theorem dX8_mayInMind_30 : decode cX8_mayInMind 30 = .ok (.goto 4, 3) := by decide +kernel
theorem dX8_mayInMind_33 : decode cX8_mayInMind 33 = .ok (.iconst 0, 1) := by decide +kernel
theorem dX8_mayInMind_34 : decode cX8_mayInMind 34 = .ok (.ireturn, 1) := by decide +kernel
theorem dX8_findSoon_0 : decode cX8_findSoon 0 = .ok (.iconst 0, 1) := by decide +kernel
theorem dX8_findSoon_1 : decode cX8_findSoon 1 = .ok (.istore 4, 2) := by decide +kernel
theorem dX8_findSoon_3 : decode cX8_findSoon 3 = .ok (.iload 4, 2) := by decide +kernel
theorem dX8_findSoon_5 : decode cX8_findSoon 5 = .ok (.bipush 7, 2) := by decide +kernel
theorem dX8_findSoon_7 : decode cX8_findSoon 7 = .ok (.if_icmp .ge 18, 3) := by decide +kernel
theorem dX8_findSoon_10 : decode cX8_findSoon 10 = .ok (.aload_n 0, 1) := by decide +kernel
theorem dX8_findSoon_11 : decode cX8_findSoon 11 = .ok (.getfield 49, 3) := by decide +kernel
theorem dX8_findSoon_14 : decode cX8_findSoon 14 = .ok (.iload 4, 2) := by decide +kernel
theorem dX8_findSoon_16 : decode cX8_findSoon 16 = .ok (.ldc 138, 2) := by decide +kernel
theorem dX8_findSoon_18 : decode cX8_findSoon 18 = .ok (.iastore, 1) := by decide +kernel
theorem dX8_findSoon_19 : decode cX8_findSoon 19 = .ok (.iinc 4 1, 3) := by decide +kernel
theorem dX8_findSoon_22 : decode cX8_findSoon 22 = .ok (.goto (-19), 3) := by decide +kernel
theorem dX8_findSoon_25 : decode cX8_findSoon 25 = .ok (.aload_n 0, 1) := by decide +kernel
theorem dX8_findSoon_26 : decode cX8_findSoon 26 = .ok (.getfield 49, 3) := by decide +kernel
theorem dX8_findSoon_29 : decode cX8_findSoon 29 = .ok (.aload_n 0, 1) := by decide +kernel
theorem dX8_findSoon_30 : decode cX8_findSoon 30 = .ok (.getfield 31, 3) := by decide +kernel
theorem dX8_findSoon_33 : decode cX8_findSoon 33 = .ok (.iload_n 2, 1) := by decide +kernel
theorem dX8_findSoon_34 : decode cX8_findSoon 34 = .ok (.aaload, 1) := by decide +kernel
theorem dX8_findSoon_35 : decode cX8_findSoon 35 = .ok (.iconst 2, 1) := by decide +kernel
theorem dX8_findSoon_36 : decode cX8_findSoon 36 = .ok (.iaload, 1) := by decide +kernel
theorem dX8_findSoon_37 : decode cX8_findSoon 37 = .ok (.iconst 0, 1) := by decide +kernel
theorem dX8_findSoon_38 : decode cX8_findSoon 38 = .ok (.iastore, 1) := by decide +kernel
theorem dX8_findSoon_39 : decode cX8_findSoon 39 = .ok (.iconst 1, 1) := by decide +kernel
theorem dX8_findSoon_40 : decode cX8_findSoon 40 = .ok (.istore 4, 2) := by decide +kernel
theorem dX8_findSoon_42 : decode cX8_findSoon 42 = .ok (.iload 4, 2) := by decide +kernel
theorem dX8_findSoon_44 : decode cX8_findSoon 44 = .ok (.ifCond .eq 140, 3) := by decide +kernel
theorem dX8_findSoon_47 : decode cX8_findSoon 47 = .ok (.iconst 0, 1) := by decide +kernel
theorem dX8_findSoon_48 : decode cX8_findSoon 48 = .ok (.istore 4, 2) := by decide +kernel
theorem dX8_findSoon_50 : decode cX8_findSoon 50 = .ok (.iconst 0, 1) := by decide +kernel
theorem dX8_findSoon_51 : decode cX8_findSoon 51 = .ok (.istore 5, 2) := by decide +kernel
theorem dX8_findSoon_53 : decode cX8_findSoon 53 = .ok (.iload 5, 2) := by decide +kernel
theorem dX8_findSoon_55 : decode cX8_findSoon 55 = .ok (.aload_n 0, 1) := by decide +kernel
theorem dX8_findSoon_56 : decode cX8_findSoon 56 = .ok (.getfield 65, 3) := by decide +kernel
theorem dX8_findSoon_59 : decode cX8_findSoon 59 = .ok (.if_icmp .ge 122, 3) := by decide +kernel
theorem dX8_findSoon_62 : decode cX8_findSoon 62 = .ok (.iconst 0, 1) := by decide +kernel
theorem dX8_findSoon_63 : decode cX8_findSoon 63 = .ok (.istore 6, 2) := by decide +kernel
theorem dX8_findSoon_65 : decode cX8_findSoon 65 = .ok (.iconst 0, 1) := by decide +kernel
theorem dX8_findSoon_66 : decode cX8_findSoon 66 = .ok (.istore 7, 2) := by decide +kernel
theorem dX8_findSoon_68 : decode cX8_findSoon 68 = .ok (.iload 7, 2) := by decide +kernel
theorem dX8_findSoon_70 : decode cX8_findSoon 70 = .ok (.aload_n 0, 1) := by decide +kernel
theorem dX8_findSoon_71 : decode cX8_findSoon 71 = .ok (.getfield 46, 3) := by decide +kernel
theorem dX8_findSoon_74 : decode cX8_findSoon 74 = .ok (.iload 5, 2) := by decide +kernel
theorem dX8_findSoon_76 : decode cX8_findSoon 76 = .ok (.iaload, 1) := by decide +kernel
theorem dX8_findSoon_77 : decode cX8_findSoon 77 = .ok (.if_icmp .ge 98, 3) := by decide +kernel
theorem dX8_findSoon_80 : decode cX8_findSoon 80 = .ok (.aload_n 0, 1) := by decide +kernel
theorem dX8_findSoon_81 : decode cX8_findSoon 81 = .ok (.getfield 40, 3) := by decide +kernel
theorem dX8_findSoon_84 : decode cX8_findSoon 84 = .ok (.iload 5, 2) := by decide +kernel
theorem dX8_findSoon_86 : decode cX8_findSoon 86 = .ok (.aaload, 1) := by decide +kernel
theorem dX8_findSoon_87 : decode cX8_findSoon 87 = .ok (.iload 7, 2) := by decide +kernel
theorem dX8_findSoon_89 : decode cX8_findSoon 89 = .ok (.iaload, 1) := by decide +kernel
theorem dX8_findSoon_90 : decode cX8_findSoon 90 = .ok (.istore 8, 2) := by decide +kernel
theorem dX8_findSoon_92 : decode cX8_findSoon 92 = .ok (.aload_n 0, 1) := by decide +kernel
theorem dX8_findSoon_93 : decode cX8_findSoon 93 = .ok (.getfield 43, 3) := by decide +kernel
theorem dX8_findSoon_96 : decode cX8_findSoon 96 = .ok (.iload 5, 2) := by decide +kernel
theorem dX8_findSoon_98 : decode cX8_findSoon 98 = .ok (.aaload, 1) := by decide +kernel
theorem dX8_findSoon_99 : decode cX8_findSoon 99 = .ok (.iload 7, 2) := by decide +kernel
theorem dX8_findSoon_101 : decode cX8_findSoon 101 = .ok (.iaload, 1) := by decide +kernel
theorem dX8_findSoon_102 : decode cX8_findSoon 102 = .ok (.istore 9, 2) := by decide +kernel
theorem dX8_findSoon_104 : decode cX8_findSoon 104 = .ok (.iload 6, 2) := by decide +kernel
theorem dX8_findSoon_106 : decode cX8_findSoon 106 = .ok (.ifCond .eq 27, 3) := by decide +kernel
theorem dX8_findSoon_109 : decode cX8_findSoon 109 = .ok (.iload 9, 2) := by decide +kernel
theorem dX8_findSoon_111 : decode cX8_findSoon 111 = .ok (.aload_n 0, 1) := by decide +kernel
theorem dX8_findSoon_112 : decode cX8_findSoon 112 = .ok (.getfield 49, 3) := by decide +kernel
theorem dX8_findSoon_115 : decode cX8_findSoon 115 = .ok (.iload 8, 2) := by decide +kernel
theorem dX8_findSoon_117 : decode cX8_findSoon 117 = .ok (.iaload, 1) := by decide +kernel
theorem dX8_findSoon_118 : decode cX8_findSoon 118 = .ok (.if_icmp .ge 15, 3) := by decide +kernel
theorem dX8_findSoon_121 : decode cX8_findSoon 121 = .ok (.aload_n 0, 1) := by decide +kernel
theorem dX8_findSoon_122 : decode cX8_findSoon 122 = .ok (.getfield 49, 3) := by decide +kernel
theorem dX8_findSoon_125 : decode cX8_findSoon 125 = .ok (.iload 8, 2) := by decide +kernel
theorem dX8_findSoon_127 : decode cX8_findSoon 127 = .ok (.iload 9, 2) := by decide +kernel
theorem dX8_findSoon_129 : decode cX8_findSoon 129 = .ok (.iastore, 1) := by decide +kernel
theorem dX8_findSoon_130 : decode cX8_findSoon 130 = .ok (.iconst 1, 1) := by decide +kernel
theorem dX8_findSoon_131 : decode cX8_findSoon 131 = .ok (.istore 4, 2) := by decide +kernel
theorem dX8_findSoon_133 : decode cX8_findSoon 133 = .ok (.iload 6, 2) := by decide +kernel
theorem dX8_findSoon_135 : decode cX8_findSoon 135 = .ok (.aload_n 0, 1) := by decide +kernel
theorem dX8_findSoon_136 : decode cX8_findSoon 136 = .ok (.getfield 49, 3) := by decide +kernel
theorem dX8_findSoon_139 : decode cX8_findSoon 139 = .ok (.iload 8, 2) := by decide +kernel
theorem dX8_findSoon_141 : decode cX8_findSoon 141 = .ok (.iaload, 1) := by decide +kernel
theorem dX8_findSoon_142 : decode cX8_findSoon 142 = .ok (.iload 9, 2) := by decide +kernel
theorem dX8_findSoon_144 : decode cX8_findSoon 144 = .ok (.if_icmp .gt 21, 3) := by decide +kernel
theorem dX8_findSoon_147 : decode cX8_findSoon 147 = .ok (.aload_n 0, 1) := by decide +kernel
theorem dX8_findSoon_148 : decode cX8_findSoon 148 = .ok (.iload_n 1, 1) := by decide +kernel
theorem dX8_findSoon_149 : decode cX8_findSoon 149 = .ok (.iload 5, 2) := by decide +kernel
theorem dX8_findSoon_151 : decode cX8_findSoon 151 = .ok (.iload_n 2, 1) := by decide +kernel
theorem dX8_findSoon_152 : decode cX8_findSoon 152 = .ok (.iload 9, 2) := by decide +kernel
theorem dX8_findSoon_154 : decode cX8_findSoon 154 = .ok (.iload_n 3, 1) := by decide +kernel
theorem dX8_findSoon_155 : decode cX8_findSoon 155 = .ok (.invokevirtual 178, 3) := by decide +kernel
theorem dX8_findSoon_158 : decode cX8_findSoon 158 = .ok (.ifCond .eq 7, 3) := by decide +kernel
theorem dX8_findSoon_161 : decode cX8_findSoon 161 = .ok (.iconst 1, 1) := by decide +kernel
theorem dX8_findSoon_162 : decode cX8_findSoon 162 = .ok (.goto 4, 3) := by decide +kernel
theorem dX8_findSoon_165 : decode cX8_findSoon 165 = .ok (.iconst 0, 1) := by decide +kernel
theorem dX8_findSoon_166 : decode cX8_findSoon 166 = .ok (.ior, 1) := by decide +kernel
theorem dX8_findSoon_167 : decode cX8_findSoon 167 = .ok (.istore 6, 2) := by decide +kernel
theorem dX8_findSoon_169 : decode cX8_findSoon 169 = .ok (.iinc 7 1, 3) := by decide +kernel
theorem dX8_findSoon_172 : decode cX8_findSoon 172 = .ok (.goto (-104), 3) := by decide +kernel
theorem dX8_findSoon_175 : decode cX8_findSoon 175 = .ok (.iinc 5 1, 3) := by decide +kernel
theorem dX8_findSoon_178 : decode cX8_findSoon 178 = .ok (.goto (-125), 3) := by decide +kernel
theorem dX8_findSoon_181 : decode cX8_findSoon 181 = .ok (.goto (-139), 3) := by decide +kernel
theorem dX8_findSoon_184 : decode cX8_findSoon 184 = .ok (.return_, 1) := by decide +kernel
theorem dX8_soonestBy_0 : decode cX8_soonestBy 0 = .ok (.aload_n 0, 1) := by decide +kernel
theorem dX8_soonestBy_1 : decode cX8_soonestBy 1 = .ok (.iload_n 1, 1) := by decide +kernel
theorem dX8_soonestBy_2 : decode cX8_soonestBy 2 = .ok (.iload_n 2, 1) := by decide +kernel
theorem dX8_soonestBy_3 : decode cX8_soonestBy 3 = .ok (.iload_n 3, 1) := by decide +kernel
theorem dX8_soonestBy_4 : decode cX8_soonestBy 4 = .ok (.invokevirtual 181, 3) := by decide +kernel
theorem dX8_soonestBy_7 : decode cX8_soonestBy 7 = .ok (.aload_n 0, 1) := by decide +kernel
theorem dX8_soonestBy_8 : decode cX8_soonestBy 8 = .ok (.getfield 49, 3) := by decide +kernel
theorem dX8_soonestBy_11 : decode cX8_soonestBy 11 = .ok (.aload_n 0, 1) := by decide +kernel
theorem dX8_soonestBy_12 : decode cX8_soonestBy 12 = .ok (.getfield 31, 3) := by decide +kernel
theorem dX8_soonestBy_15 : decode cX8_soonestBy 15 = .ok (.iload_n 2, 1) := by decide +kernel
theorem dX8_soonestBy_16 : decode cX8_soonestBy 16 = .ok (.aaload, 1) := by decide +kernel
theorem dX8_soonestBy_17 : decode cX8_soonestBy 17 = .ok (.iconst 3, 1) := by decide +kernel
theorem dX8_soonestBy_18 : decode cX8_soonestBy 18 = .ok (.iaload, 1) := by decide +kernel
theorem dX8_soonestBy_19 : decode cX8_soonestBy 19 = .ok (.iaload, 1) := by decide +kernel
theorem dX8_soonestBy_20 : decode cX8_soonestBy 20 = .ok (.istore 4, 2) := by decide +kernel
theorem dX8_soonestBy_22 : decode cX8_soonestBy 22 = .ok (.iload 4, 2) := by decide +kernel
theorem dX8_soonestBy_24 : decode cX8_soonestBy 24 = .ok (.ldc 138, 2) := by decide +kernel
theorem dX8_soonestBy_26 : decode cX8_soonestBy 26 = .ok (.if_icmp .ge 8, 3) := by decide +kernel
theorem dX8_soonestBy_29 : decode cX8_soonestBy 29 = .ok (.iload 4, 2) := by decide +kernel
theorem dX8_soonestBy_31 : decode cX8_soonestBy 31 = .ok (.goto 5, 3) := by decide +kernel
theorem dX8_soonestBy_34 : decode cX8_soonestBy 34 = .ok (.bipush (-9), 2) := by decide +kernel
theorem dX8_soonestBy_36 : decode cX8_soonestBy 36 = .ok (.ireturn, 1) := by decide +kernel
theorem dX8_soonest_0 : decode cX8_soonest 0 = .ok (.aload_n 0, 1) := by decide +kernel
theorem dX8_soonest_1 : decode cX8_soonest 1 = .ok (.iload_n 1, 1) := by decide +kernel
theorem dX8_soonest_2 : decode cX8_soonest 2 = .ok (.invokevirtual 145, 3) := by decide +kernel
theorem dX8_soonest_5 : decode cX8_soonest 5 = .ok (.ifCond .ne 9, 3) := by decide +kernel
theorem dX8_soonest_8 : decode cX8_soonest 8 = .ok (.aload_n 0, 1) := by decide +kernel
theorem dX8_soonest_9 : decode cX8_soonest 9 = .ok (.iconst (-1), 1) := by decide +kernel
theorem dX8_soonest_10 : decode cX8_soonest 10 = .ok (.invokevirtual 71, 3) := by decide +kernel
theorem dX8_soonest_13 : decode cX8_soonest 13 = .ok (.ireturn, 1) := by decide +kernel
theorem dX8_soonest_14 : decode cX8_soonest 14 = .ok (.aload_n 0, 1) := by decide +kernel
theorem dX8_soonest_15 : decode cX8_soonest 15 = .ok (.invokevirtual 185, 3) := by decide +kernel
theorem dX8_soonest_18 : decode cX8_soonest 18 = .ok (.aload_n 0, 1) := by decide +kernel
theorem dX8_soonest_19 : decode cX8_soonest 19 = .ok (.aload_n 0, 1) := by decide +kernel
theorem dX8_soonest_20 : decode cX8_soonest 20 = .ok (.getfield 148, 3) := by decide +kernel
theorem dX8_soonest_23 : decode cX8_soonest 23 = .ok (.iload_n 1, 1) := by decide +kernel
theorem dX8_soonest_24 : decode cX8_soonest 24 = .ok (.bipush (-9), 2) := by decide +kernel
theorem dX8_soonest_26 : decode cX8_soonest 26 = .ok (.invokevirtual 188, 3) := by decide +kernel
theorem dX8_soonest_29 : decode cX8_soonest 29 = .ok (.ireturn, 1) := by decide +kernel
theorem dX8_bringsFrom_0 : decode cX8_bringsFrom 0 = .ok (.bipush (-9), 2) := by decide +kernel
theorem dX8_bringsFrom_2 : decode cX8_bringsFrom 2 = .ok (.istore 5, 2) := by decide +kernel
theorem dX8_bringsFrom_4 : decode cX8_bringsFrom 4 = .ok (.iconst 0, 1) := by decide +kernel
theorem dX8_bringsFrom_5 : decode cX8_bringsFrom 5 = .ok (.istore 6, 2) := by decide +kernel
theorem dX8_bringsFrom_7 : decode cX8_bringsFrom 7 = .ok (.iload 6, 2) := by decide +kernel
theorem dX8_bringsFrom_9 : decode cX8_bringsFrom 9 = .ok (.aload_n 0, 1) := by decide +kernel
theorem dX8_bringsFrom_10 : decode cX8_bringsFrom 10 = .ok (.getfield 46, 3) := by decide +kernel
theorem dX8_bringsFrom_13 : decode cX8_bringsFrom 13 = .ok (.iload_n 1, 1) := by decide +kernel
theorem dX8_bringsFrom_14 : decode cX8_bringsFrom 14 = .ok (.iaload, 1) := by decide +kernel
theorem dX8_bringsFrom_15 : decode cX8_bringsFrom 15 = .ok (.if_icmp .ge 100, 3) := by decide +kernel
theorem dX8_bringsFrom_18 : decode cX8_bringsFrom 18 = .ok (.aload_n 0, 1) := by decide +kernel
theorem dX8_bringsFrom_19 : decode cX8_bringsFrom 19 = .ok (.getfield 40, 3) := by decide +kernel
theorem dX8_bringsFrom_22 : decode cX8_bringsFrom 22 = .ok (.iload_n 1, 1) := by decide +kernel
theorem dX8_bringsFrom_23 : decode cX8_bringsFrom 23 = .ok (.aaload, 1) := by decide +kernel
theorem dX8_bringsFrom_24 : decode cX8_bringsFrom 24 = .ok (.iload 6, 2) := by decide +kernel
theorem dX8_bringsFrom_26 : decode cX8_bringsFrom 26 = .ok (.iaload, 1) := by decide +kernel
theorem dX8_bringsFrom_27 : decode cX8_bringsFrom 27 = .ok (.istore 7, 2) := by decide +kernel
theorem dX8_bringsFrom_29 : decode cX8_bringsFrom 29 = .ok (.iload 7, 2) := by decide +kernel
theorem dX8_bringsFrom_31 : decode cX8_bringsFrom 31 = .ok (.iload_n 3, 1) := by decide +kernel
theorem dX8_bringsFrom_32 : decode cX8_bringsFrom 32 = .ok (.if_icmp .ne 25, 3) := by decide +kernel
theorem dX8_bringsFrom_35 : decode cX8_bringsFrom 35 = .ok (.aload_n 0, 1) := by decide +kernel
theorem dX8_bringsFrom_36 : decode cX8_bringsFrom 36 = .ok (.getfield 43, 3) := by decide +kernel
theorem dX8_bringsFrom_39 : decode cX8_bringsFrom 39 = .ok (.iload_n 1, 1) := by decide +kernel
theorem dX8_bringsFrom_40 : decode cX8_bringsFrom 40 = .ok (.aaload, 1) := by decide +kernel
theorem dX8_bringsFrom_41 : decode cX8_bringsFrom 41 = .ok (.iload 6, 2) := by decide +kernel
theorem dX8_bringsFrom_43 : decode cX8_bringsFrom 43 = .ok (.iaload, 1) := by decide +kernel
theorem dX8_bringsFrom_44 : decode cX8_bringsFrom 44 = .ok (.iload 4, 2) := by decide +kernel
theorem dX8_bringsFrom_46 : decode cX8_bringsFrom 46 = .ok (.if_icmp .ne 8, 3) := by decide +kernel
theorem dX8_bringsFrom_49 : decode cX8_bringsFrom 49 = .ok (.iload 5, 2) := by decide +kernel
theorem dX8_bringsFrom_51 : decode cX8_bringsFrom 51 = .ok (.goto 5, 3) := by decide +kernel
theorem dX8_bringsFrom_54 : decode cX8_bringsFrom 54 = .ok (.bipush (-9), 2) := by decide +kernel
theorem dX8_bringsFrom_56 : decode cX8_bringsFrom 56 = .ok (.ireturn, 1) := by decide +kernel
theorem dX8_bringsFrom_57 : decode cX8_bringsFrom 57 = .ok (.aload_n 0, 1) := by decide +kernel
theorem dX8_bringsFrom_58 : decode cX8_bringsFrom 58 = .ok (.getfield 49, 3) := by decide +kernel
theorem dX8_bringsFrom_61 : decode cX8_bringsFrom 61 = .ok (.iload 7, 2) := by decide +kernel
theorem dX8_bringsFrom_63 : decode cX8_bringsFrom 63 = .ok (.iaload, 1) := by decide +kernel
theorem dX8_bringsFrom_64 : decode cX8_bringsFrom 64 = .ok (.aload_n 0, 1) := by decide +kernel
theorem dX8_bringsFrom_65 : decode cX8_bringsFrom 65 = .ok (.getfield 43, 3) := by decide +kernel
theorem dX8_bringsFrom_68 : decode cX8_bringsFrom 68 = .ok (.iload_n 1, 1) := by decide +kernel
theorem dX8_bringsFrom_69 : decode cX8_bringsFrom 69 = .ok (.aaload, 1) := by decide +kernel
theorem dX8_bringsFrom_70 : decode cX8_bringsFrom 70 = .ok (.iload 6, 2) := by decide +kernel
theorem dX8_bringsFrom_72 : decode cX8_bringsFrom 72 = .ok (.iaload, 1) := by decide +kernel
theorem dX8_bringsFrom_73 : decode cX8_bringsFrom 73 = .ok (.if_icmp .gt 32, 3) := by decide +kernel
theorem dX8_bringsFrom_76 : decode cX8_bringsFrom 76 = .ok (.aload_n 0, 1) := by decide +kernel
theorem dX8_bringsFrom_77 : decode cX8_bringsFrom 77 = .ok (.aload_n 0, 1) := by decide +kernel
theorem dX8_bringsFrom_78 : decode cX8_bringsFrom 78 = .ok (.getfield 148, 3) := by decide +kernel
theorem dX8_bringsFrom_81 : decode cX8_bringsFrom 81 = .ok (.iload_n 1, 1) := by decide +kernel
theorem dX8_bringsFrom_82 : decode cX8_bringsFrom 82 = .ok (.iload_n 2, 1) := by decide +kernel
theorem dX8_bringsFrom_83 : decode cX8_bringsFrom 83 = .ok (.aload_n 0, 1) := by decide +kernel
theorem dX8_bringsFrom_84 : decode cX8_bringsFrom 84 = .ok (.getfield 43, 3) := by decide +kernel
theorem dX8_bringsFrom_87 : decode cX8_bringsFrom 87 = .ok (.iload_n 1, 1) := by decide +kernel
theorem dX8_bringsFrom_88 : decode cX8_bringsFrom 88 = .ok (.aaload, 1) := by decide +kernel
theorem dX8_bringsFrom_89 : decode cX8_bringsFrom 89 = .ok (.iload 6, 2) := by decide +kernel
theorem dX8_bringsFrom_91 : decode cX8_bringsFrom 91 = .ok (.iaload, 1) := by decide +kernel
theorem dX8_bringsFrom_92 : decode cX8_bringsFrom 92 = .ok (.bipush (-9), 2) := by decide +kernel
theorem dX8_bringsFrom_94 : decode cX8_bringsFrom 94 = .ok (.invokevirtual 178, 3) := by decide +kernel
theorem dX8_bringsFrom_97 : decode cX8_bringsFrom 97 = .ok (.ifCond .eq 8, 3) := by decide +kernel
theorem dX8_bringsFrom_100 : decode cX8_bringsFrom 100 = .ok (.iload 6, 2) := by decide +kernel
theorem dX8_bringsFrom_102 : decode cX8_bringsFrom 102 = .ok (.goto 5, 3) := by decide +kernel
theorem dX8_bringsFrom_105 : decode cX8_bringsFrom 105 = .ok (.iload 5, 2) := by decide +kernel
theorem dX8_bringsFrom_107 : decode cX8_bringsFrom 107 = .ok (.istore 5, 2) := by decide +kernel
theorem dX8_bringsFrom_109 : decode cX8_bringsFrom 109 = .ok (.iinc 6 1, 3) := by decide +kernel
theorem dX8_bringsFrom_112 : decode cX8_bringsFrom 112 = .ok (.goto (-105), 3) := by decide +kernel
theorem dX8_bringsFrom_115 : decode cX8_bringsFrom 115 = .ok (.bipush (-9), 2) := by decide +kernel
theorem dX8_bringsFrom_117 : decode cX8_bringsFrom 117 = .ok (.ireturn, 1) := by decide +kernel
theorem dX8_findOver_0 : decode cX8_findOver 0 = .ok (.aload_n 0, 1) := by decide +kernel
theorem dX8_findOver_1 : decode cX8_findOver 1 = .ok (.getfield 31, 3) := by decide +kernel
theorem dX8_findOver_4 : decode cX8_findOver 4 = .ok (.iload_n 1, 1) := by decide +kernel
theorem dX8_findOver_5 : decode cX8_findOver 5 = .ok (.aaload, 1) := by decide +kernel
theorem dX8_findOver_6 : decode cX8_findOver 6 = .ok (.iconst 3, 1) := by decide +kernel
theorem dX8_findOver_7 : decode cX8_findOver 7 = .ok (.iaload, 1) := by decide +kernel
theorem dX8_findOver_8 : decode cX8_findOver 8 = .ok (.istore_n 2, 1) := by decide +kernel
theorem dX8_findOver_9 : decode cX8_findOver 9 = .ok (.iconst 0, 1) := by decide +kernel
theorem dX8_findOver_10 : decode cX8_findOver 10 = .ok (.istore_n 3, 1) := by decide +kernel
theorem dX8_findOver_11 : decode cX8_findOver 11 = .ok (.iload_n 2, 1) := by decide +kernel
theorem dX8_findOver_12 : decode cX8_findOver 12 = .ok (.aload_n 0, 1) := by decide +kernel
theorem dX8_findOver_13 : decode cX8_findOver 13 = .ok (.getfield 31, 3) := by decide +kernel
theorem dX8_findOver_16 : decode cX8_findOver 16 = .ok (.iload_n 1, 1) := by decide +kernel
theorem dX8_findOver_17 : decode cX8_findOver 17 = .ok (.aaload, 1) := by decide +kernel
theorem dX8_findOver_18 : decode cX8_findOver 18 = .ok (.iconst 2, 1) := by decide +kernel
theorem dX8_findOver_19 : decode cX8_findOver 19 = .ok (.iaload, 1) := by decide +kernel
theorem dX8_findOver_20 : decode cX8_findOver 20 = .ok (.if_icmp .eq 68, 3) := by decide +kernel
theorem dX8_findOver_23 : decode cX8_findOver 23 = .ok (.iconst 0, 1) := by decide +kernel
theorem dX8_findOver_24 : decode cX8_findOver 24 = .ok (.istore 4, 2) := by decide +kernel
theorem dX8_findOver_26 : decode cX8_findOver 26 = .ok (.aload_n 0, 1) := by decide +kernel
theorem dX8_findOver_27 : decode cX8_findOver 27 = .ok (.iload 4, 2) := by decide +kernel
theorem dX8_findOver_29 : decode cX8_findOver 29 = .ok (.iload_n 1, 1) := by decide +kernel
theorem dX8_findOver_30 : decode cX8_findOver 30 = .ok (.iload_n 2, 1) := by decide +kernel
theorem dX8_findOver_31 : decode cX8_findOver 31 = .ok (.aload_n 0, 1) := by decide +kernel
theorem dX8_findOver_32 : decode cX8_findOver 32 = .ok (.getfield 49, 3) := by decide +kernel
theorem dX8_findOver_35 : decode cX8_findOver 35 = .ok (.iload_n 2, 1) := by decide +kernel
theorem dX8_findOver_36 : decode cX8_findOver 36 = .ok (.iaload, 1) := by decide +kernel
theorem dX8_findOver_37 : decode cX8_findOver 37 = .ok (.invokevirtual 192, 3) := by decide +kernel
theorem dX8_findOver_40 : decode cX8_findOver 40 = .ok (.bipush (-9), 2) := by decide +kernel
theorem dX8_findOver_42 : decode cX8_findOver 42 = .ok (.if_icmp .ne 9, 3) := by decide +kernel
theorem dX8_findOver_45 : decode cX8_findOver 45 = .ok (.iinc 4 1, 3) := by decide +kernel
theorem dX8_findOver_48 : decode cX8_findOver 48 = .ok (.goto (-22), 3) := by decide +kernel
theorem dX8_findOver_51 : decode cX8_findOver 51 = .ok (.aload_n 0, 1) := by decide +kernel
theorem dX8_findOver_52 : decode cX8_findOver 52 = .ok (.getfield 52, 3) := by decide +kernel
theorem dX8_findOver_55 : decode cX8_findOver 55 = .ok (.iload_n 3, 1) := by decide +kernel
theorem dX8_findOver_56 : decode cX8_findOver 56 = .ok (.iinc 3 1, 3) := by decide +kernel
theorem dX8_findOver_59 : decode cX8_findOver 59 = .ok (.iload 4, 2) := by decide +kernel
theorem dX8_findOver_61 : decode cX8_findOver 61 = .ok (.iastore, 1) := by decide +kernel
theorem dX8_findOver_62 : decode cX8_findOver 62 = .ok (.aload_n 0, 1) := by decide +kernel
theorem dX8_findOver_63 : decode cX8_findOver 63 = .ok (.getfield 40, 3) := by decide +kernel
theorem dX8_findOver_66 : decode cX8_findOver 66 = .ok (.iload 4, 2) := by decide +kernel
theorem dX8_findOver_68 : decode cX8_findOver 68 = .ok (.aaload, 1) := by decide +kernel
theorem dX8_findOver_69 : decode cX8_findOver 69 = .ok (.aload_n 0, 1) := by decide +kernel
theorem dX8_findOver_70 : decode cX8_findOver 70 = .ok (.iload 4, 2) := by decide +kernel
theorem dX8_findOver_72 : decode cX8_findOver 72 = .ok (.iload_n 1, 1) := by decide +kernel
theorem dX8_findOver_73 : decode cX8_findOver 73 = .ok (.iload_n 2, 1) := by decide +kernel
theorem dX8_findOver_74 : decode cX8_findOver 74 = .ok (.aload_n 0, 1) := by decide +kernel
theorem dX8_findOver_75 : decode cX8_findOver 75 = .ok (.getfield 49, 3) := by decide +kernel
theorem dX8_findOver_78 : decode cX8_findOver 78 = .ok (.iload_n 2, 1) := by decide +kernel
theorem dX8_findOver_79 : decode cX8_findOver 79 = .ok (.iaload, 1) := by decide +kernel
theorem dX8_findOver_80 : decode cX8_findOver 80 = .ok (.invokevirtual 192, 3) := by decide +kernel
theorem dX8_findOver_83 : decode cX8_findOver 83 = .ok (.iaload, 1) := by decide +kernel
theorem dX8_findOver_84 : decode cX8_findOver 84 = .ok (.istore_n 2, 1) := by decide +kernel
theorem dX8_findOver_85 : decode cX8_findOver 85 = .ok (.goto (-74), 3) := by decide +kernel
theorem dX8_findOver_88 : decode cX8_findOver 88 = .ok (.iload_n 3, 1) := by decide +kernel
theorem dX8_findOver_89 : decode cX8_findOver 89 = .ok (.ireturn, 1) := by decide +kernel
theorem dX8_over_0 : decode cX8_over 0 = .ok (.aload_n 0, 1) := by decide +kernel
theorem dX8_over_1 : decode cX8_over 1 = .ok (.iload_n 1, 1) := by decide +kernel
theorem dX8_over_2 : decode cX8_over 2 = .ok (.invokevirtual 145, 3) := by decide +kernel
theorem dX8_over_5 : decode cX8_over 5 = .ok (.ifCond .ne 9, 3) := by decide +kernel
theorem dX8_over_8 : decode cX8_over 8 = .ok (.aload_n 0, 1) := by decide +kernel
theorem dX8_over_9 : decode cX8_over 9 = .ok (.iconst (-1), 1) := by decide +kernel
theorem dX8_over_10 : decode cX8_over 10 = .ok (.invokevirtual 71, 3) := by decide +kernel
theorem dX8_over_13 : decode cX8_over 13 = .ok (.ireturn, 1) := by decide +kernel
theorem dX8_over_14 : decode cX8_over 14 = .ok (.iload_n 2, 1) := by decide +kernel
theorem dX8_over_15 : decode cX8_over 15 = .ok (.iconst (-1), 1) := by decide +kernel
theorem dX8_over_16 : decode cX8_over 16 = .ok (.if_icmp .ge 10, 3) := by decide +kernel
theorem dX8_over_19 : decode cX8_over 19 = .ok (.aload_n 0, 1) := by decide +kernel
theorem dX8_over_20 : decode cX8_over 20 = .ok (.bipush (-4), 2) := by decide +kernel
theorem dX8_over_22 : decode cX8_over 22 = .ok (.invokevirtual 71, 3) := by decide +kernel
theorem dX8_over_25 : decode cX8_over 25 = .ok (.ireturn, 1) := by decide +kernel
theorem dX8_over_26 : decode cX8_over 26 = .ok (.aload_n 0, 1) := by decide +kernel
theorem dX8_over_27 : decode cX8_over 27 = .ok (.invokevirtual 185, 3) := by decide +kernel
theorem dX8_over_30 : decode cX8_over 30 = .ok (.aload_n 0, 1) := by decide +kernel
theorem dX8_over_31 : decode cX8_over 31 = .ok (.aload_n 0, 1) := by decide +kernel
theorem dX8_over_32 : decode cX8_over 32 = .ok (.getfield 148, 3) := by decide +kernel
theorem dX8_over_35 : decode cX8_over 35 = .ok (.iload_n 1, 1) := by decide +kernel
theorem dX8_over_36 : decode cX8_over 36 = .ok (.bipush (-9), 2) := by decide +kernel
theorem dX8_over_38 : decode cX8_over 38 = .ok (.invokevirtual 188, 3) := by decide +kernel
theorem dX8_over_41 : decode cX8_over 41 = .ok (.bipush (-9), 2) := by decide +kernel
theorem dX8_over_43 : decode cX8_over 43 = .ok (.if_icmp .ne 6, 3) := by decide +kernel
theorem dX8_over_46 : decode cX8_over 46 = .ok (.bipush (-9), 2) := by decide +kernel
theorem dX8_over_48 : decode cX8_over 48 = .ok (.ireturn, 1) := by decide +kernel
theorem dX8_over_49 : decode cX8_over 49 = .ok (.aload_n 0, 1) := by decide +kernel
theorem dX8_over_50 : decode cX8_over 50 = .ok (.iload_n 1, 1) := by decide +kernel
theorem dX8_over_51 : decode cX8_over 51 = .ok (.invokevirtual 196, 3) := by decide +kernel
theorem dX8_over_54 : decode cX8_over 54 = .ok (.istore_n 3, 1) := by decide +kernel
theorem dX8_over_55 : decode cX8_over 55 = .ok (.iload_n 2, 1) := by decide +kernel
theorem dX8_over_56 : decode cX8_over 56 = .ok (.iconst (-1), 1) := by decide +kernel
theorem dX8_over_57 : decode cX8_over 57 = .ok (.if_icmp .ne 7, 3) := by decide +kernel
theorem dX8_over_60 : decode cX8_over 60 = .ok (.iload_n 3, 1) := by decide +kernel
theorem dX8_over_61 : decode cX8_over 61 = .ok (.goto 23, 3) := by decide +kernel
theorem dX8_over_64 : decode cX8_over 64 = .ok (.iload_n 2, 1) := by decide +kernel
theorem dX8_over_65 : decode cX8_over 65 = .ok (.iload_n 3, 1) := by decide +kernel
theorem dX8_over_66 : decode cX8_over 66 = .ok (.if_icmp .ge 16, 3) := by decide +kernel
theorem dX8_over_69 : decode cX8_over 69 = .ok (.aload_n 0, 1) := by decide +kernel
theorem dX8_over_70 : decode cX8_over 70 = .ok (.getfield 52, 3) := by decide +kernel
theorem dX8_over_73 : decode cX8_over 73 = .ok (.iload_n 3, 1) := by decide +kernel
theorem dX8_over_74 : decode cX8_over 74 = .ok (.iconst 1, 1) := by decide +kernel
theorem dX8_over_75 : decode cX8_over 75 = .ok (.isub, 1) := by decide +kernel
theorem dX8_over_76 : decode cX8_over 76 = .ok (.iload_n 2, 1) := by decide +kernel
theorem dX8_over_77 : decode cX8_over 77 = .ok (.isub, 1) := by decide +kernel
theorem dX8_over_78 : decode cX8_over 78 = .ok (.iaload, 1) := by decide +kernel
theorem dX8_over_79 : decode cX8_over 79 = .ok (.goto 5, 3) := by decide +kernel
theorem dX8_over_82 : decode cX8_over 82 = .ok (.bipush (-9), 2) := by decide +kernel
theorem dX8_over_84 : decode cX8_over 84 = .ok (.ireturn, 1) := by decide +kernel
theorem dX8_bars_0 : decode cX8_bars 0 = .ok (.aload_n 0, 1) := by decide +kernel
theorem dX8_bars_1 : decode cX8_bars 1 = .ok (.iload_n 1, 1) := by decide +kernel
theorem dX8_bars_2 : decode cX8_bars 2 = .ok (.invokevirtual 145, 3) := by decide +kernel
theorem dX8_bars_5 : decode cX8_bars 5 = .ok (.ifCond .ne 9, 3) := by decide +kernel
theorem dX8_bars_8 : decode cX8_bars 8 = .ok (.aload_n 0, 1) := by decide +kernel
theorem dX8_bars_9 : decode cX8_bars 9 = .ok (.iconst (-1), 1) := by decide +kernel
theorem dX8_bars_10 : decode cX8_bars 10 = .ok (.invokevirtual 71, 3) := by decide +kernel
theorem dX8_bars_13 : decode cX8_bars 13 = .ok (.ireturn, 1) := by decide +kernel
theorem dX8_bars_14 : decode cX8_bars 14 = .ok (.aload_n 0, 1) := by decide +kernel
theorem dX8_bars_15 : decode cX8_bars 15 = .ok (.invokevirtual 185, 3) := by decide +kernel
theorem dX8_bars_18 : decode cX8_bars 18 = .ok (.iconst 0, 1) := by decide +kernel
theorem dX8_bars_19 : decode cX8_bars 19 = .ok (.istore_n 2, 1) := by decide +kernel
theorem dX8_bars_20 : decode cX8_bars 20 = .ok (.aload_n 0, 1) := by decide +kernel
theorem dX8_bars_21 : decode cX8_bars 21 = .ok (.aload_n 0, 1) := by decide +kernel
theorem dX8_bars_22 : decode cX8_bars 22 = .ok (.getfield 148, 3) := by decide +kernel
theorem dX8_bars_25 : decode cX8_bars 25 = .ok (.iload_n 1, 1) := by decide +kernel
theorem dX8_bars_26 : decode cX8_bars 26 = .ok (.bipush (-9), 2) := by decide +kernel
theorem dX8_bars_28 : decode cX8_bars 28 = .ok (.invokevirtual 188, 3) := by decide +kernel
theorem dX8_bars_31 : decode cX8_bars 31 = .ok (.bipush (-9), 2) := by decide +kernel
theorem dX8_bars_33 : decode cX8_bars 33 = .ok (.if_icmp .ne 53, 3) := by decide +kernel
theorem dX8_bars_36 : decode cX8_bars 36 = .ok (.iconst 0, 1) := by decide +kernel
theorem dX8_bars_37 : decode cX8_bars 37 = .ok (.istore_n 3, 1) := by decide +kernel
theorem dX8_bars_38 : decode cX8_bars 38 = .ok (.iload_n 3, 1) := by decide +kernel
theorem dX8_bars_39 : decode cX8_bars 39 = .ok (.aload_n 0, 1) := by decide +kernel
theorem dX8_bars_40 : decode cX8_bars 40 = .ok (.getfield 65, 3) := by decide +kernel
theorem dX8_bars_43 : decode cX8_bars 43 = .ok (.if_icmp .ge 43, 3) := by decide +kernel
theorem dX8_bars_46 : decode cX8_bars 46 = .ok (.iload_n 2, 1) := by decide +kernel
theorem dX8_bars_47 : decode cX8_bars 47 = .ok (.aload_n 0, 1) := by decide +kernel
theorem dX8_bars_48 : decode cX8_bars 48 = .ok (.iload_n 3, 1) := by decide +kernel
theorem dX8_bars_49 : decode cX8_bars 49 = .ok (.iload_n 1, 1) := by decide +kernel
theorem dX8_bars_50 : decode cX8_bars 50 = .ok (.invokevirtual 158, 3) := by decide +kernel
theorem dX8_bars_53 : decode cX8_bars 53 = .ok (.ifCond .eq 24, 3) := by decide +kernel
theorem dX8_bars_56 : decode cX8_bars 56 = .ok (.aload_n 0, 1) := by decide +kernel
theorem dX8_bars_57 : decode cX8_bars 57 = .ok (.aload_n 0, 1) := by decide +kernel
theorem dX8_bars_58 : decode cX8_bars 58 = .ok (.getfield 148, 3) := by decide +kernel
theorem dX8_bars_61 : decode cX8_bars 61 = .ok (.iload_n 1, 1) := by decide +kernel
theorem dX8_bars_62 : decode cX8_bars 62 = .ok (.iload_n 3, 1) := by decide +kernel
theorem dX8_bars_63 : decode cX8_bars 63 = .ok (.invokevirtual 188, 3) := by decide +kernel
theorem dX8_bars_66 : decode cX8_bars 66 = .ok (.bipush (-9), 2) := by decide +kernel
theorem dX8_bars_68 : decode cX8_bars 68 = .ok (.if_icmp .eq 9, 3) := by decide +kernel
theorem dX8_bars_71 : decode cX8_bars 71 = .ok (.iconst 1, 1) := by decide +kernel
theorem dX8_bars_72 : decode cX8_bars 72 = .ok (.iload_n 3, 1) := by decide +kernel
theorem dX8_bars_73 : decode cX8_bars 73 = .ok (.ishl, 1) := by decide +kernel
theorem dX8_bars_74 : decode cX8_bars 74 = .ok (.goto 4, 3) := by decide +kernel
theorem dX8_bars_77 : decode cX8_bars 77 = .ok (.iconst 0, 1) := by decide +kernel
theorem dX8_bars_78 : decode cX8_bars 78 = .ok (.ior, 1) := by decide +kernel
theorem dX8_bars_79 : decode cX8_bars 79 = .ok (.istore_n 2, 1) := by decide +kernel
theorem dX8_bars_80 : decode cX8_bars 80 = .ok (.iinc 3 1, 3) := by decide +kernel
theorem dX8_bars_83 : decode cX8_bars 83 = .ok (.goto (-45), 3) := by decide +kernel
theorem dX8_bars_86 : decode cX8_bars 86 = .ok (.iload_n 2, 1) := by decide +kernel
theorem dX8_bars_87 : decode cX8_bars 87 = .ok (.ireturn, 1) := by decide +kernel
theorem dX8_never_0 : decode cX8_never 0 = .ok (.aload_n 0, 1) := by decide +kernel
theorem dX8_never_1 : decode cX8_never 1 = .ok (.invokevirtual 185, 3) := by decide +kernel
theorem dX8_never_4 : decode cX8_never 4 = .ok (.iconst 0, 1) := by decide +kernel
theorem dX8_never_5 : decode cX8_never 5 = .ok (.istore_n 1, 1) := by decide +kernel
theorem dX8_never_6 : decode cX8_never 6 = .ok (.iconst 0, 1) := by decide +kernel
theorem dX8_never_7 : decode cX8_never 7 = .ok (.istore_n 2, 1) := by decide +kernel
theorem dX8_never_8 : decode cX8_never 8 = .ok (.iload_n 2, 1) := by decide +kernel
theorem dX8_never_9 : decode cX8_never 9 = .ok (.aload_n 0, 1) := by decide +kernel
theorem dX8_never_10 : decode cX8_never 10 = .ok (.getfield 68, 3) := by decide +kernel
theorem dX8_never_13 : decode cX8_never 13 = .ok (.if_icmp .ge 35, 3) := by decide +kernel
theorem dX8_never_16 : decode cX8_never 16 = .ok (.iload_n 1, 1) := by decide +kernel
theorem dX8_never_17 : decode cX8_never 17 = .ok (.aload_n 0, 1) := by decide +kernel
theorem dX8_never_18 : decode cX8_never 18 = .ok (.aload_n 0, 1) := by decide +kernel
theorem dX8_never_19 : decode cX8_never 19 = .ok (.getfield 148, 3) := by decide +kernel
theorem dX8_never_22 : decode cX8_never 22 = .ok (.iload_n 2, 1) := by decide +kernel
theorem dX8_never_23 : decode cX8_never 23 = .ok (.bipush (-9), 2) := by decide +kernel
theorem dX8_never_25 : decode cX8_never 25 = .ok (.invokevirtual 188, 3) := by decide +kernel
theorem dX8_never_28 : decode cX8_never 28 = .ok (.bipush (-9), 2) := by decide +kernel
theorem dX8_never_30 : decode cX8_never 30 = .ok (.if_icmp .ne 9, 3) := by decide +kernel
theorem dX8_never_33 : decode cX8_never 33 = .ok (.iconst 1, 1) := by decide +kernel
theorem dX8_never_34 : decode cX8_never 34 = .ok (.iload_n 2, 1) := by decide +kernel
theorem dX8_never_35 : decode cX8_never 35 = .ok (.ishl, 1) := by decide +kernel
theorem dX8_never_36 : decode cX8_never 36 = .ok (.goto 4, 3) := by decide +kernel
theorem dX8_never_39 : decode cX8_never 39 = .ok (.iconst 0, 1) := by decide +kernel
theorem dX8_never_40 : decode cX8_never 40 = .ok (.ior, 1) := by decide +kernel
theorem dX8_never_41 : decode cX8_never 41 = .ok (.istore_n 1, 1) := by decide +kernel
theorem dX8_never_42 : decode cX8_never 42 = .ok (.iinc 2 1, 3) := by decide +kernel
theorem dX8_never_45 : decode cX8_never 45 = .ok (.goto (-37), 3) := by decide +kernel
theorem dX8_never_48 : decode cX8_never 48 = .ok (.iload_n 1, 1) := by decide +kernel
theorem dX8_never_49 : decode cX8_never 49 = .ok (.ireturn, 1) := by decide +kernel
theorem dX8_isComeBy_0 : decode cX8_isComeBy 0 = .ok (.iconst 0, 1) := by decide +kernel
theorem dX8_isComeBy_1 : decode cX8_isComeBy 1 = .ok (.istore_n 3, 1) := by decide +kernel
theorem dX8_isComeBy_2 : decode cX8_isComeBy 2 = .ok (.iload_n 3, 1) := by decide +kernel
theorem dX8_isComeBy_3 : decode cX8_isComeBy 3 = .ok (.aload_n 0, 1) := by decide +kernel
theorem dX8_isComeBy_4 : decode cX8_isComeBy 4 = .ok (.getfield 65, 3) := by decide +kernel
theorem dX8_isComeBy_7 : decode cX8_isComeBy 7 = .ok (.if_icmp .ge 68, 3) := by decide +kernel
theorem dX8_isComeBy_10 : decode cX8_isComeBy 10 = .ok (.iconst 0, 1) := by decide +kernel
theorem dX8_isComeBy_11 : decode cX8_isComeBy 11 = .ok (.istore 4, 2) := by decide +kernel
theorem dX8_isComeBy_13 : decode cX8_isComeBy 13 = .ok (.iload 4, 2) := by decide +kernel
theorem dX8_isComeBy_15 : decode cX8_isComeBy 15 = .ok (.aload_n 0, 1) := by decide +kernel
theorem dX8_isComeBy_16 : decode cX8_isComeBy 16 = .ok (.getfield 46, 3) := by decide +kernel
theorem dX8_isComeBy_19 : decode cX8_isComeBy 19 = .ok (.iload_n 3, 1) := by decide +kernel
theorem dX8_isComeBy_20 : decode cX8_isComeBy 20 = .ok (.iaload, 1) := by decide +kernel
theorem dX8_isComeBy_21 : decode cX8_isComeBy 21 = .ok (.if_icmp .ge 48, 3) := by decide +kernel
theorem dX8_isComeBy_24 : decode cX8_isComeBy 24 = .ok (.aload_n 0, 1) := by decide +kernel
theorem dX8_isComeBy_25 : decode cX8_isComeBy 25 = .ok (.getfield 40, 3) := by decide +kernel
theorem dX8_isComeBy_28 : decode cX8_isComeBy 28 = .ok (.iload_n 3, 1) := by decide +kernel
theorem dX8_isComeBy_29 : decode cX8_isComeBy 29 = .ok (.aaload, 1) := by decide +kernel
theorem dX8_isComeBy_30 : decode cX8_isComeBy 30 = .ok (.iload 4, 2) := by decide +kernel
theorem dX8_isComeBy_32 : decode cX8_isComeBy 32 = .ok (.iaload, 1) := by decide +kernel
theorem dX8_isComeBy_33 : decode cX8_isComeBy 33 = .ok (.iload_n 2, 1) := by decide +kernel
theorem dX8_isComeBy_34 : decode cX8_isComeBy 34 = .ok (.if_icmp .ne 29, 3) := by decide +kernel
theorem dX8_isComeBy_37 : decode cX8_isComeBy 37 = .ok (.aload_n 0, 1) := by decide +kernel
theorem dX8_isComeBy_38 : decode cX8_isComeBy 38 = .ok (.aload_n 0, 1) := by decide +kernel
theorem dX8_isComeBy_39 : decode cX8_isComeBy 39 = .ok (.getfield 148, 3) := by decide +kernel
theorem dX8_isComeBy_42 : decode cX8_isComeBy 42 = .ok (.iload_n 3, 1) := by decide +kernel
theorem dX8_isComeBy_43 : decode cX8_isComeBy 43 = .ok (.iload_n 1, 1) := by decide +kernel
theorem dX8_isComeBy_44 : decode cX8_isComeBy 44 = .ok (.aload_n 0, 1) := by decide +kernel
theorem dX8_isComeBy_45 : decode cX8_isComeBy 45 = .ok (.getfield 43, 3) := by decide +kernel
theorem dX8_isComeBy_48 : decode cX8_isComeBy 48 = .ok (.iload_n 3, 1) := by decide +kernel
theorem dX8_isComeBy_49 : decode cX8_isComeBy 49 = .ok (.aaload, 1) := by decide +kernel
theorem dX8_isComeBy_50 : decode cX8_isComeBy 50 = .ok (.iload 4, 2) := by decide +kernel
theorem dX8_isComeBy_52 : decode cX8_isComeBy 52 = .ok (.iaload, 1) := by decide +kernel
theorem dX8_isComeBy_53 : decode cX8_isComeBy 53 = .ok (.bipush (-9), 2) := by decide +kernel
theorem dX8_isComeBy_55 : decode cX8_isComeBy 55 = .ok (.invokevirtual 178, 3) := by decide +kernel
theorem dX8_isComeBy_58 : decode cX8_isComeBy 58 = .ok (.ifCond .eq 5, 3) := by decide +kernel
theorem dX8_isComeBy_61 : decode cX8_isComeBy 61 = .ok (.iconst 1, 1) := by decide +kernel
theorem dX8_isComeBy_62 : decode cX8_isComeBy 62 = .ok (.ireturn, 1) := by decide +kernel
theorem dX8_isComeBy_63 : decode cX8_isComeBy 63 = .ok (.iinc 4 1, 3) := by decide +kernel
theorem dX8_isComeBy_66 : decode cX8_isComeBy 66 = .ok (.goto (-53), 3) := by decide +kernel
theorem dX8_isComeBy_69 : decode cX8_isComeBy 69 = .ok (.iinc 3 1, 3) := by decide +kernel
theorem dX8_isComeBy_72 : decode cX8_isComeBy 72 = .ok (.goto (-70), 3) := by decide +kernel
theorem dX8_isComeBy_75 : decode cX8_isComeBy 75 = .ok (.iconst 0, 1) := by decide +kernel
theorem dX8_isComeBy_76 : decode cX8_isComeBy 76 = .ok (.ireturn, 1) := by decide +kernel
theorem dX8_why_0 : decode cX8_why 0 = .ok (.aload_n 0, 1) := by decide +kernel
theorem dX8_why_1 : decode cX8_why 1 = .ok (.iload_n 1, 1) := by decide +kernel
theorem dX8_why_2 : decode cX8_why 2 = .ok (.invokevirtual 145, 3) := by decide +kernel
theorem dX8_why_5 : decode cX8_why 5 = .ok (.ifCond .ne 9, 3) := by decide +kernel
theorem dX8_why_8 : decode cX8_why 8 = .ok (.aload_n 0, 1) := by decide +kernel
theorem dX8_why_9 : decode cX8_why 9 = .ok (.iconst (-1), 1) := by decide +kernel
theorem dX8_why_10 : decode cX8_why 10 = .ok (.invokevirtual 71, 3) := by decide +kernel
theorem dX8_why_13 : decode cX8_why 13 = .ok (.ireturn, 1) := by decide +kernel
theorem dX8_why_14 : decode cX8_why 14 = .ok (.aload_n 0, 1) := by decide +kernel
theorem dX8_why_15 : decode cX8_why 15 = .ok (.invokevirtual 185, 3) := by decide +kernel
theorem dX8_why_18 : decode cX8_why 18 = .ok (.aload_n 0, 1) := by decide +kernel
theorem dX8_why_19 : decode cX8_why 19 = .ok (.aload_n 0, 1) := by decide +kernel
theorem dX8_why_20 : decode cX8_why 20 = .ok (.getfield 148, 3) := by decide +kernel
theorem dX8_why_23 : decode cX8_why 23 = .ok (.iload_n 1, 1) := by decide +kernel
theorem dX8_why_24 : decode cX8_why 24 = .ok (.bipush (-9), 2) := by decide +kernel
theorem dX8_why_26 : decode cX8_why 26 = .ok (.invokevirtual 188, 3) := by decide +kernel
theorem dX8_why_29 : decode cX8_why 29 = .ok (.bipush (-9), 2) := by decide +kernel
theorem dX8_why_31 : decode cX8_why 31 = .ok (.if_icmp .eq 5, 3) := by decide +kernel
theorem dX8_why_34 : decode cX8_why 34 = .ok (.iconst 0, 1) := by decide +kernel
theorem dX8_why_35 : decode cX8_why 35 = .ok (.ireturn, 1) := by decide +kernel
theorem dX8_why_36 : decode cX8_why 36 = .ok (.aload_n 0, 1) := by decide +kernel
theorem dX8_why_37 : decode cX8_why 37 = .ok (.iload_n 1, 1) := by decide +kernel
theorem dX8_why_38 : decode cX8_why 38 = .ok (.aload_n 0, 1) := by decide +kernel
theorem dX8_why_39 : decode cX8_why 39 = .ok (.getfield 31, 3) := by decide +kernel
theorem dX8_why_42 : decode cX8_why 42 = .ok (.iload_n 1, 1) := by decide +kernel
theorem dX8_why_43 : decode cX8_why 43 = .ok (.aaload, 1) := by decide +kernel
theorem dX8_why_44 : decode cX8_why 44 = .ok (.iconst 2, 1) := by decide +kernel
theorem dX8_why_45 : decode cX8_why 45 = .ok (.iaload, 1) := by decide +kernel
theorem dX8_why_46 : decode cX8_why 46 = .ok (.invokevirtual 199, 3) := by decide +kernel
theorem dX8_why_49 : decode cX8_why 49 = .ok (.ifCond .ne 7, 3) := by decide +kernel
theorem dX8_why_52 : decode cX8_why 52 = .ok (.iconst 1, 1) := by decide +kernel
theorem dX8_why_53 : decode cX8_why 53 = .ok (.goto 24, 3) := by decide +kernel
theorem dX8_why_56 : decode cX8_why 56 = .ok (.aload_n 0, 1) := by decide +kernel
theorem dX8_why_57 : decode cX8_why 57 = .ok (.iload_n 1, 1) := by decide +kernel
theorem dX8_why_58 : decode cX8_why 58 = .ok (.aload_n 0, 1) := by decide +kernel
theorem dX8_why_59 : decode cX8_why 59 = .ok (.getfield 31, 3) := by decide +kernel
theorem dX8_why_62 : decode cX8_why 62 = .ok (.iload_n 1, 1) := by decide +kernel
theorem dX8_why_63 : decode cX8_why 63 = .ok (.aaload, 1) := by decide +kernel
theorem dX8_why_64 : decode cX8_why 64 = .ok (.iconst 3, 1) := by decide +kernel
theorem dX8_why_65 : decode cX8_why 65 = .ok (.iaload, 1) := by decide +kernel
theorem dX8_why_66 : decode cX8_why 66 = .ok (.invokevirtual 199, 3) := by decide +kernel
theorem dX8_why_69 : decode cX8_why 69 = .ok (.ifCond .ne 7, 3) := by decide +kernel
theorem dX8_why_72 : decode cX8_why 72 = .ok (.iconst 2, 1) := by decide +kernel
theorem dX8_why_73 : decode cX8_why 73 = .ok (.goto 4, 3) := by decide +kernel
theorem dX8_why_76 : decode cX8_why 76 = .ok (.iconst 4, 1) := by decide +kernel
theorem dX8_why_77 : decode cX8_why 77 = .ok (.ireturn, 1) := by decide +kernel
theorem dX8_roundOf_0 : decode cX8_roundOf 0 = .ok (.aload_n 0, 1) := by decide +kernel
theorem dX8_roundOf_1 : decode cX8_roundOf 1 = .ok (.getfield 28, 3) := by decide +kernel
theorem dX8_roundOf_4 : decode cX8_roundOf 4 = .ok (.iload_n 1, 1) := by decide +kernel
theorem dX8_roundOf_5 : decode cX8_roundOf 5 = .ok (.aaload, 1) := by decide +kernel
theorem dX8_roundOf_6 : decode cX8_roundOf 6 = .ok (.astore_n 3, 1) := by decide +kernel
theorem dX8_roundOf_7 : decode cX8_roundOf 7 = .ok (.aload_n 0, 1) := by decide +kernel
theorem dX8_roundOf_8 : decode cX8_roundOf 8 = .ok (.getfield 31, 3) := by decide +kernel
theorem dX8_roundOf_11 : decode cX8_roundOf 11 = .ok (.iload_n 2, 1) := by decide +kernel
theorem dX8_roundOf_12 : decode cX8_roundOf 12 = .ok (.aaload, 1) := by decide +kernel
theorem dX8_roundOf_13 : decode cX8_roundOf 13 = .ok (.astore 4, 2) := by decide +kernel
theorem dX8_roundOf_15 : decode cX8_roundOf 15 = .ok (.aload_n 0, 1) := by decide +kernel
theorem dX8_roundOf_16 : decode cX8_roundOf 16 = .ok (.getfield 37, 3) := by decide +kernel
theorem dX8_roundOf_19 : decode cX8_roundOf 19 = .ok (.aload_n 3, 1) := by decide +kernel
theorem dX8_roundOf_20 : decode cX8_roundOf 20 = .ok (.iconst 0, 1) := by decide +kernel
theorem dX8_roundOf_21 : decode cX8_roundOf 21 = .ok (.iaload, 1) := by decide +kernel
theorem dX8_roundOf_22 : decode cX8_roundOf 22 = .ok (.aaload, 1) := by decide +kernel
theorem dX8_roundOf_23 : decode cX8_roundOf 23 = .ok (.aload 4, 2) := by decide +kernel
theorem dX8_roundOf_25 : decode cX8_roundOf 25 = .ok (.iconst 2, 1) := by decide +kernel
theorem dX8_roundOf_26 : decode cX8_roundOf 26 = .ok (.iaload, 1) := by decide +kernel
theorem dX8_roundOf_27 : decode cX8_roundOf 27 = .ok (.iaload, 1) := by decide +kernel
theorem dX8_roundOf_28 : decode cX8_roundOf 28 = .ok (.istore 5, 2) := by decide +kernel
theorem dX8_roundOf_30 : decode cX8_roundOf 30 = .ok (.aload_n 0, 1) := by decide +kernel
theorem dX8_roundOf_31 : decode cX8_roundOf 31 = .ok (.getfield 37, 3) := by decide +kernel
theorem dX8_roundOf_34 : decode cX8_roundOf 34 = .ok (.aload 4, 2) := by decide +kernel
theorem dX8_roundOf_36 : decode cX8_roundOf 36 = .ok (.iconst 2, 1) := by decide +kernel
theorem dX8_roundOf_37 : decode cX8_roundOf 37 = .ok (.iaload, 1) := by decide +kernel
theorem dX8_roundOf_38 : decode cX8_roundOf 38 = .ok (.aaload, 1) := by decide +kernel
theorem dX8_roundOf_39 : decode cX8_roundOf 39 = .ok (.aload 4, 2) := by decide +kernel
theorem dX8_roundOf_41 : decode cX8_roundOf 41 = .ok (.iconst 3, 1) := by decide +kernel
theorem dX8_roundOf_42 : decode cX8_roundOf 42 = .ok (.iaload, 1) := by decide +kernel
theorem dX8_roundOf_43 : decode cX8_roundOf 43 = .ok (.iaload, 1) := by decide +kernel
theorem dX8_roundOf_44 : decode cX8_roundOf 44 = .ok (.istore 6, 2) := by decide +kernel
theorem dX8_roundOf_46 : decode cX8_roundOf 46 = .ok (.aload_n 0, 1) := by decide +kernel
theorem dX8_roundOf_47 : decode cX8_roundOf 47 = .ok (.getfield 37, 3) := by decide +kernel
theorem dX8_roundOf_50 : decode cX8_roundOf 50 = .ok (.aload 4, 2) := by decide +kernel
theorem dX8_roundOf_52 : decode cX8_roundOf 52 = .ok (.iconst 3, 1) := by decide +kernel
theorem dX8_roundOf_53 : decode cX8_roundOf 53 = .ok (.iaload, 1) := by decide +kernel
theorem dX8_roundOf_54 : decode cX8_roundOf 54 = .ok (.aaload, 1) := by decide +kernel
theorem dX8_roundOf_55 : decode cX8_roundOf 55 = .ok (.aload_n 3, 1) := by decide +kernel
theorem dX8_roundOf_56 : decode cX8_roundOf 56 = .ok (.iconst 1, 1) := by decide +kernel
theorem dX8_roundOf_57 : decode cX8_roundOf 57 = .ok (.iaload, 1) := by decide +kernel
theorem dX8_roundOf_58 : decode cX8_roundOf 58 = .ok (.iaload, 1) := by decide +kernel
theorem dX8_roundOf_59 : decode cX8_roundOf 59 = .ok (.istore 7, 2) := by decide +kernel
theorem dX8_roundOf_61 : decode cX8_roundOf 61 = .ok (.iload 5, 2) := by decide +kernel
theorem dX8_roundOf_63 : decode cX8_roundOf 63 = .ok (.ldc 138, 2) := by decide +kernel
theorem dX8_roundOf_65 : decode cX8_roundOf 65 = .ok (.if_icmp .ge 17, 3) := by decide +kernel
theorem dX8_roundOf_68 : decode cX8_roundOf 68 = .ok (.iload 6, 2) := by decide +kernel
theorem dX8_roundOf_70 : decode cX8_roundOf 70 = .ok (.ldc 138, 2) := by decide +kernel
theorem dX8_roundOf_72 : decode cX8_roundOf 72 = .ok (.if_icmp .ge 10, 3) := by decide +kernel
theorem dX8_roundOf_75 : decode cX8_roundOf 75 = .ok (.iload 7, 2) := by decide +kernel
theorem dX8_roundOf_77 : decode cX8_roundOf 77 = .ok (.ldc 138, 2) := by decide +kernel
theorem dX8_roundOf_79 : decode cX8_roundOf 79 = .ok (.if_icmp .lt 6, 3) := by decide +kernel
theorem dX8_roundOf_82 : decode cX8_roundOf 82 = .ok (.bipush (-9), 2) := by decide +kernel
theorem dX8_roundOf_84 : decode cX8_roundOf 84 = .ok (.ireturn, 1) := by decide +kernel
theorem dX8_roundOf_85 : decode cX8_roundOf 85 = .ok (.aload_n 3, 1) := by decide +kernel
theorem dX8_roundOf_86 : decode cX8_roundOf 86 = .ok (.iconst 2, 1) := by decide +kernel
theorem dX8_roundOf_87 : decode cX8_roundOf 87 = .ok (.iaload, 1) := by decide +kernel
theorem dX8_roundOf_88 : decode cX8_roundOf 88 = .ok (.iload 5, 2) := by decide +kernel
theorem dX8_roundOf_90 : decode cX8_roundOf 90 = .ok (.iadd, 1) := by decide +kernel
theorem dX8_roundOf_91 : decode cX8_roundOf 91 = .ok (.istore 8, 2) := by decide +kernel
theorem dX8_roundOf_93 : decode cX8_roundOf 93 = .ok (.aload_n 0, 1) := by decide +kernel
theorem dX8_roundOf_94 : decode cX8_roundOf 94 = .ok (.aload_n 0, 1) := by decide +kernel
theorem dX8_roundOf_95 : decode cX8_roundOf 95 = .ok (.getfield 148, 3) := by decide +kernel
theorem dX8_roundOf_98 : decode cX8_roundOf 98 = .ok (.iload_n 1, 1) := by decide +kernel
theorem dX8_roundOf_99 : decode cX8_roundOf 99 = .ok (.iload_n 2, 1) := by decide +kernel
theorem dX8_roundOf_100 : decode cX8_roundOf 100 = .ok (.iload 8, 2) := by decide +kernel
theorem dX8_roundOf_102 : decode cX8_roundOf 102 = .ok (.bipush (-9), 2) := by decide +kernel
theorem dX8_roundOf_104 : decode cX8_roundOf 104 = .ok (.invokevirtual 178, 3) := by decide +kernel
theorem dX8_roundOf_107 : decode cX8_roundOf 107 = .ok (.ifCond .eq 23, 3) := by decide +kernel
theorem dX8_roundOf_110 : decode cX8_roundOf 110 = .ok (.iload 8, 2) := by decide +kernel
theorem dX8_roundOf_112 : decode cX8_roundOf 112 = .ok (.iload 6, 2) := by decide +kernel
theorem dX8_roundOf_114 : decode cX8_roundOf 114 = .ok (.iadd, 1) := by decide +kernel
theorem dX8_roundOf_115 : decode cX8_roundOf 115 = .ok (.aload 4, 2) := by decide +kernel
theorem dX8_roundOf_117 : decode cX8_roundOf 117 = .ok (.iconst 5, 1) := by decide +kernel
theorem dX8_roundOf_118 : decode cX8_roundOf 118 = .ok (.iaload, 1) := by decide +kernel
theorem dX8_roundOf_119 : decode cX8_roundOf 119 = .ok (.if_icmp .gt 11, 3) := by decide +kernel
theorem dX8_roundOf_122 : decode cX8_roundOf 122 = .ok (.iload 8, 2) := by decide +kernel
theorem dX8_roundOf_124 : decode cX8_roundOf 124 = .ok (.iload 6, 2) := by decide +kernel
theorem dX8_roundOf_126 : decode cX8_roundOf 126 = .ok (.iadd, 1) := by decide +kernel
theorem dX8_roundOf_127 : decode cX8_roundOf 127 = .ok (.goto 5, 3) := by decide +kernel
theorem dX8_roundOf_130 : decode cX8_roundOf 130 = .ok (.bipush (-9), 2) := by decide +kernel
theorem dX8_roundOf_132 : decode cX8_roundOf 132 = .ok (.ireturn, 1) := by decide +kernel
theorem dX8_moreOf_0 : decode cX8_moreOf 0 = .ok (.aload_n 0, 1) := by decide +kernel
theorem dX8_moreOf_1 : decode cX8_moreOf 1 = .ok (.getfield 28, 3) := by decide +kernel
theorem dX8_moreOf_4 : decode cX8_moreOf 4 = .ok (.iload_n 1, 1) := by decide +kernel
theorem dX8_moreOf_5 : decode cX8_moreOf 5 = .ok (.aaload, 1) := by decide +kernel
theorem dX8_moreOf_6 : decode cX8_moreOf 6 = .ok (.astore_n 3, 1) := by decide +kernel
theorem dX8_moreOf_7 : decode cX8_moreOf 7 = .ok (.aload_n 0, 1) := by decide +kernel
theorem dX8_moreOf_8 : decode cX8_moreOf 8 = .ok (.getfield 31, 3) := by decide +kernel
theorem dX8_moreOf_11 : decode cX8_moreOf 11 = .ok (.iload_n 2, 1) := by decide +kernel
theorem dX8_moreOf_12 : decode cX8_moreOf 12 = .ok (.aaload, 1) := by decide +kernel
theorem dX8_moreOf_13 : decode cX8_moreOf 13 = .ok (.astore 4, 2) := by decide +kernel
theorem dX8_moreOf_15 : decode cX8_moreOf 15 = .ok (.aload_n 0, 1) := by decide +kernel
theorem dX8_moreOf_16 : decode cX8_moreOf 16 = .ok (.getfield 37, 3) := by decide +kernel
theorem dX8_moreOf_19 : decode cX8_moreOf 19 = .ok (.aload_n 3, 1) := by decide +kernel
theorem dX8_moreOf_20 : decode cX8_moreOf 20 = .ok (.iconst 0, 1) := by decide +kernel
theorem dX8_moreOf_21 : decode cX8_moreOf 21 = .ok (.iaload, 1) := by decide +kernel
theorem dX8_moreOf_22 : decode cX8_moreOf 22 = .ok (.aaload, 1) := by decide +kernel
theorem dX8_moreOf_23 : decode cX8_moreOf 23 = .ok (.aload 4, 2) := by decide +kernel
theorem dX8_moreOf_25 : decode cX8_moreOf 25 = .ok (.iconst 2, 1) := by decide +kernel
theorem dX8_moreOf_26 : decode cX8_moreOf 26 = .ok (.iaload, 1) := by decide +kernel
theorem dX8_moreOf_27 : decode cX8_moreOf 27 = .ok (.iaload, 1) := by decide +kernel
theorem dX8_moreOf_28 : decode cX8_moreOf 28 = .ok (.aload_n 0, 1) := by decide +kernel
theorem dX8_moreOf_29 : decode cX8_moreOf 29 = .ok (.getfield 37, 3) := by decide +kernel
theorem dX8_moreOf_32 : decode cX8_moreOf 32 = .ok (.aload 4, 2) := by decide +kernel
theorem dX8_moreOf_34 : decode cX8_moreOf 34 = .ok (.iconst 2, 1) := by decide +kernel
theorem dX8_moreOf_35 : decode cX8_moreOf 35 = .ok (.iaload, 1) := by decide +kernel
theorem dX8_moreOf_36 : decode cX8_moreOf 36 = .ok (.aaload, 1) := by decide +kernel
theorem dX8_moreOf_37 : decode cX8_moreOf 37 = .ok (.aload 4, 2) := by decide +kernel
theorem dX8_moreOf_39 : decode cX8_moreOf 39 = .ok (.iconst 3, 1) := by decide +kernel
theorem dX8_moreOf_40 : decode cX8_moreOf 40 = .ok (.iaload, 1) := by decide +kernel
theorem dX8_moreOf_41 : decode cX8_moreOf 41 = .ok (.iaload, 1) := by decide +kernel
theorem dX8_moreOf_42 : decode cX8_moreOf 42 = .ok (.iadd, 1) := by decide +kernel
theorem dX8_moreOf_43 : decode cX8_moreOf 43 = .ok (.aload_n 0, 1) := by decide +kernel
theorem dX8_moreOf_44 : decode cX8_moreOf 44 = .ok (.getfield 37, 3) := by decide +kernel
theorem dX8_moreOf_47 : decode cX8_moreOf 47 = .ok (.aload 4, 2) := by decide +kernel
theorem dX8_moreOf_49 : decode cX8_moreOf 49 = .ok (.iconst 3, 1) := by decide +kernel
theorem dX8_moreOf_50 : decode cX8_moreOf 50 = .ok (.iaload, 1) := by decide +kernel
theorem dX8_moreOf_51 : decode cX8_moreOf 51 = .ok (.aaload, 1) := by decide +kernel
theorem dX8_moreOf_52 : decode cX8_moreOf 52 = .ok (.aload_n 3, 1) := by decide +kernel
theorem dX8_moreOf_53 : decode cX8_moreOf 53 = .ok (.iconst 1, 1) := by decide +kernel
theorem dX8_moreOf_54 : decode cX8_moreOf 54 = .ok (.iaload, 1) := by decide +kernel
theorem dX8_moreOf_55 : decode cX8_moreOf 55 = .ok (.iaload, 1) := by decide +kernel
theorem dX8_moreOf_56 : decode cX8_moreOf 56 = .ok (.iadd, 1) := by decide +kernel
theorem dX8_moreOf_57 : decode cX8_moreOf 57 = .ok (.aload_n 0, 1) := by decide +kernel
theorem dX8_moreOf_58 : decode cX8_moreOf 58 = .ok (.getfield 37, 3) := by decide +kernel
theorem dX8_moreOf_61 : decode cX8_moreOf 61 = .ok (.aload_n 3, 1) := by decide +kernel
theorem dX8_moreOf_62 : decode cX8_moreOf 62 = .ok (.iconst 0, 1) := by decide +kernel
theorem dX8_moreOf_63 : decode cX8_moreOf 63 = .ok (.iaload, 1) := by decide +kernel
theorem dX8_moreOf_64 : decode cX8_moreOf 64 = .ok (.aaload, 1) := by decide +kernel
theorem dX8_moreOf_65 : decode cX8_moreOf 65 = .ok (.aload_n 3, 1) := by decide +kernel
theorem dX8_moreOf_66 : decode cX8_moreOf 66 = .ok (.iconst 1, 1) := by decide +kernel
theorem dX8_moreOf_67 : decode cX8_moreOf 67 = .ok (.iaload, 1) := by decide +kernel
theorem dX8_moreOf_68 : decode cX8_moreOf 68 = .ok (.iaload, 1) := by decide +kernel
theorem dX8_moreOf_69 : decode cX8_moreOf 69 = .ok (.isub, 1) := by decide +kernel
theorem dX8_moreOf_70 : decode cX8_moreOf 70 = .ok (.ireturn, 1) := by decide +kernel
theorem dX8_round_0 : decode cX8_round 0 = .ok (.aload_n 0, 1) := by decide +kernel
theorem dX8_round_1 : decode cX8_round 1 = .ok (.iload_n 1, 1) := by decide +kernel
theorem dX8_round_2 : decode cX8_round 2 = .ok (.invokevirtual 108, 3) := by decide +kernel
theorem dX8_round_5 : decode cX8_round 5 = .ok (.ifCond .eq 11, 3) := by decide +kernel
theorem dX8_round_8 : decode cX8_round 8 = .ok (.aload_n 0, 1) := by decide +kernel
theorem dX8_round_9 : decode cX8_round 9 = .ok (.iload_n 2, 1) := by decide +kernel
theorem dX8_round_10 : decode cX8_round 10 = .ok (.invokevirtual 145, 3) := by decide +kernel
theorem dX8_round_13 : decode cX8_round 13 = .ok (.ifCond .ne 9, 3) := by decide +kernel
theorem dX8_round_16 : decode cX8_round 16 = .ok (.aload_n 0, 1) := by decide +kernel
theorem dX8_round_17 : decode cX8_round 17 = .ok (.iconst (-1), 1) := by decide +kernel
theorem dX8_round_18 : decode cX8_round 18 = .ok (.invokevirtual 71, 3) := by decide +kernel
theorem dX8_round_21 : decode cX8_round 21 = .ok (.ireturn, 1) := by decide +kernel
theorem dX8_round_22 : decode cX8_round 22 = .ok (.iload_n 3, 1) := by decide +kernel
theorem dX8_round_23 : decode cX8_round 23 = .ok (.iconst 0, 1) := by decide +kernel
theorem dX8_round_24 : decode cX8_round 24 = .ok (.iconst 1, 1) := by decide +kernel
theorem dX8_round_25 : decode cX8_round 25 = .ok (.invokestatic 61, 3) := by decide +kernel
theorem dX8_round_28 : decode cX8_round 28 = .ok (.ifCond .ne 10, 3) := by decide +kernel
theorem dX8_round_31 : decode cX8_round 31 = .ok (.aload_n 0, 1) := by decide +kernel
theorem dX8_round_32 : decode cX8_round 32 = .ok (.bipush (-2), 2) := by decide +kernel
theorem dX8_round_34 : decode cX8_round 34 = .ok (.invokevirtual 71, 3) := by decide +kernel
theorem dX8_round_37 : decode cX8_round 37 = .ok (.ireturn, 1) := by decide +kernel
theorem dX8_round_38 : decode cX8_round 38 = .ok (.aload_n 0, 1) := by decide +kernel
theorem dX8_round_39 : decode cX8_round 39 = .ok (.invokevirtual 139, 3) := by decide +kernel
theorem dX8_round_42 : decode cX8_round 42 = .ok (.aload_n 0, 1) := by decide +kernel
theorem dX8_round_43 : decode cX8_round 43 = .ok (.iload_n 1, 1) := by decide +kernel
theorem dX8_round_44 : decode cX8_round 44 = .ok (.iload_n 2, 1) := by decide +kernel
theorem dX8_round_45 : decode cX8_round 45 = .ok (.invokevirtual 202, 3) := by decide +kernel
theorem dX8_round_48 : decode cX8_round 48 = .ok (.istore 4, 2) := by decide +kernel
theorem dX8_round_50 : decode cX8_round 50 = .ok (.iload 4, 2) := by decide +kernel
theorem dX8_round_52 : decode cX8_round 52 = .ok (.bipush (-9), 2) := by decide +kernel
theorem dX8_round_54 : decode cX8_round 54 = .ok (.if_icmp .eq 7, 3) := by decide +kernel
theorem dX8_round_57 : decode cX8_round 57 = .ok (.iload_n 3, 1) := by decide +kernel
theorem dX8_round_58 : decode cX8_round 58 = .ok (.ifCond .ne 8, 3) := by decide +kernel
theorem dX8_round_61 : decode cX8_round 61 = .ok (.iload 4, 2) := by decide +kernel
theorem dX8_round_63 : decode cX8_round 63 = .ok (.goto 9, 3) := by decide +kernel
theorem dX8_round_66 : decode cX8_round 66 = .ok (.aload_n 0, 1) := by decide +kernel
theorem dX8_round_67 : decode cX8_round 67 = .ok (.iload_n 1, 1) := by decide +kernel
theorem dX8_round_68 : decode cX8_round 68 = .ok (.iload_n 2, 1) := by decide +kernel
theorem dX8_round_69 : decode cX8_round 69 = .ok (.invokevirtual 205, 3) := by decide +kernel
theorem dX8_round_72 : decode cX8_round 72 = .ok (.ireturn, 1) := by decide +kernel
theorem dX8_seek_0 : decode cX8_seek 0 = .ok (.iload_n 1, 1) := by decide +kernel
theorem dX8_seek_1 : decode cX8_seek 1 = .ok (.aload_n 0, 1) := by decide +kernel
theorem dX8_seek_2 : decode cX8_seek 2 = .ok (.getfield 65, 3) := by decide +kernel
theorem dX8_seek_5 : decode cX8_seek 5 = .ok (.if_icmp .ne 49, 3) := by decide +kernel
theorem dX8_seek_8 : decode cX8_seek 8 = .ok (.iload_n 3, 1) := by decide +kernel
theorem dX8_seek_9 : decode cX8_seek 9 = .ok (.aload_n 0, 1) := by decide +kernel
theorem dX8_seek_10 : decode cX8_seek 10 = .ok (.getfield 208, 3) := by decide +kernel
theorem dX8_seek_13 : decode cX8_seek 13 = .ok (.if_icmp .le 40, 3) := by decide +kernel
theorem dX8_seek_16 : decode cX8_seek 16 = .ok (.aload_n 0, 1) := by decide +kernel
theorem dX8_seek_17 : decode cX8_seek 17 = .ok (.iload_n 3, 1) := by decide +kernel
theorem dX8_seek_18 : decode cX8_seek 18 = .ok (.putfield 208, 3) := by decide +kernel
theorem dX8_seek_21 : decode cX8_seek 21 = .ok (.iconst 0, 1) := by decide +kernel
theorem dX8_seek_22 : decode cX8_seek 22 = .ok (.istore 5, 2) := by decide +kernel
theorem dX8_seek_24 : decode cX8_seek 24 = .ok (.iload 5, 2) := by decide +kernel
theorem dX8_seek_26 : decode cX8_seek 26 = .ok (.aload_n 0, 1) := by decide +kernel
theorem dX8_seek_27 : decode cX8_seek 27 = .ok (.getfield 65, 3) := by decide +kernel
theorem dX8_seek_30 : decode cX8_seek 30 = .ok (.if_icmp .ge 23, 3) := by decide +kernel
theorem dX8_seek_33 : decode cX8_seek 33 = .ok (.aload_n 0, 1) := by decide +kernel
theorem dX8_seek_34 : decode cX8_seek 34 = .ok (.getfield 58, 3) := by decide +kernel
theorem dX8_seek_37 : decode cX8_seek 37 = .ok (.iload 5, 2) := by decide +kernel
theorem dX8_seek_39 : decode cX8_seek 39 = .ok (.aload_n 0, 1) := by decide +kernel
theorem dX8_seek_40 : decode cX8_seek 40 = .ok (.getfield 55, 3) := by decide +kernel
theorem dX8_seek_43 : decode cX8_seek 43 = .ok (.iload 5, 2) := by decide +kernel
theorem dX8_seek_45 : decode cX8_seek 45 = .ok (.iaload, 1) := by decide +kernel
theorem dX8_seek_46 : decode cX8_seek 46 = .ok (.iastore, 1) := by decide +kernel
theorem dX8_seek_47 : decode cX8_seek 47 = .ok (.iinc 5 1, 3) := by decide +kernel
theorem dX8_seek_50 : decode cX8_seek 50 = .ok (.goto (-26), 3) := by decide +kernel
theorem dX8_seek_53 : decode cX8_seek 53 = .ok (.return_, 1) := by decide +kernel
theorem dX8_seek_54 : decode cX8_seek 54 = .ok (.aload_n 0, 1) := by decide +kernel
theorem dX8_seek_55 : decode cX8_seek 55 = .ok (.getfield 55, 3) := by decide +kernel
theorem dX8_seek_58 : decode cX8_seek 58 = .ok (.iload_n 1, 1) := by decide +kernel
theorem dX8_seek_59 : decode cX8_seek 59 = .ok (.bipush (-9), 2) := by decide +kernel
theorem dX8_seek_61 : decode cX8_seek 61 = .ok (.iastore, 1) := by decide +kernel
theorem dX8_seek_62 : decode cX8_seek 62 = .ok (.aload_n 0, 1) := by decide +kernel
theorem dX8_seek_63 : decode cX8_seek 63 = .ok (.iload_n 1, 1) := by decide +kernel
theorem dX8_seek_64 : decode cX8_seek 64 = .ok (.iconst 1, 1) := by decide +kernel
theorem dX8_seek_65 : decode cX8_seek 65 = .ok (.iadd, 1) := by decide +kernel
theorem dX8_seek_66 : decode cX8_seek 66 = .ok (.iload_n 2, 1) := by decide +kernel
theorem dX8_seek_67 : decode cX8_seek 67 = .ok (.iload_n 3, 1) := by decide +kernel
theorem dX8_seek_68 : decode cX8_seek 68 = .ok (.iload 4, 2) := by decide +kernel
theorem dX8_seek_70 : decode cX8_seek 70 = .ok (.invokevirtual 211, 3) := by decide +kernel
theorem dX8_seek_73 : decode cX8_seek 73 = .ok (.iconst 0, 1) := by decide +kernel
theorem dX8_seek_74 : decode cX8_seek 74 = .ok (.istore 5, 2) := by decide +kernel
theorem dX8_seek_76 : decode cX8_seek 76 = .ok (.iload 5, 2) := by decide +kernel
theorem dX8_seek_78 : decode cX8_seek 78 = .ok (.aload_n 0, 1) := by decide +kernel
theorem dX8_seek_79 : decode cX8_seek 79 = .ok (.getfield 68, 3) := by decide +kernel
theorem dX8_seek_82 : decode cX8_seek 82 = .ok (.if_icmp .ge 79, 3) := by decide +kernel
theorem dX8_seek_85 : decode cX8_seek 85 = .ok (.iload_n 1, 1) := by decide +kernel
theorem dX8_seek_86 : decode cX8_seek 86 = .ok (.iload 4, 2) := by decide +kernel
theorem dX8_seek_88 : decode cX8_seek 88 = .ok (.if_icmp .eq 73, 3) := by decide +kernel
theorem dX8_seek_91 : decode cX8_seek 91 = .ok (.iload_n 2, 1) := by decide +kernel
theorem dX8_seek_92 : decode cX8_seek 92 = .ok (.iload 5, 2) := by decide +kernel
theorem dX8_seek_94 : decode cX8_seek 94 = .ok (.ishr, 1) := by decide +kernel
theorem dX8_seek_95 : decode cX8_seek 95 = .ok (.iconst 1, 1) := by decide +kernel
theorem dX8_seek_96 : decode cX8_seek 96 = .ok (.iand, 1) := by decide +kernel
theorem dX8_seek_97 : decode cX8_seek 97 = .ok (.ifCond .ne 58, 3) := by decide +kernel
theorem dX8_seek_100 : decode cX8_seek 100 = .ok (.aload_n 0, 1) := by decide +kernel
theorem dX8_seek_101 : decode cX8_seek 101 = .ok (.iload_n 1, 1) := by decide +kernel
theorem dX8_seek_102 : decode cX8_seek 102 = .ok (.iload 5, 2) := by decide +kernel
theorem dX8_seek_104 : decode cX8_seek 104 = .ok (.invokevirtual 202, 3) := by decide +kernel
theorem dX8_seek_107 : decode cX8_seek 107 = .ok (.bipush (-9), 2) := by decide +kernel
theorem dX8_seek_109 : decode cX8_seek 109 = .ok (.if_icmp .eq 46, 3) := by decide +kernel
theorem dX8_seek_112 : decode cX8_seek 112 = .ok (.aload_n 0, 1) := by decide +kernel
theorem dX8_seek_113 : decode cX8_seek 113 = .ok (.getfield 55, 3) := by decide +kernel
theorem dX8_seek_116 : decode cX8_seek 116 = .ok (.iload_n 1, 1) := by decide +kernel
theorem dX8_seek_117 : decode cX8_seek 117 = .ok (.iload 5, 2) := by decide +kernel
theorem dX8_seek_119 : decode cX8_seek 119 = .ok (.iastore, 1) := by decide +kernel
theorem dX8_seek_120 : decode cX8_seek 120 = .ok (.aload_n 0, 1) := by decide +kernel
theorem dX8_seek_121 : decode cX8_seek 121 = .ok (.iload_n 1, 1) := by decide +kernel
theorem dX8_seek_122 : decode cX8_seek 122 = .ok (.iconst 1, 1) := by decide +kernel
theorem dX8_seek_123 : decode cX8_seek 123 = .ok (.iadd, 1) := by decide +kernel
theorem dX8_seek_124 : decode cX8_seek 124 = .ok (.iload_n 2, 1) := by decide +kernel
theorem dX8_seek_125 : decode cX8_seek 125 = .ok (.iconst 1, 1) := by decide +kernel
theorem dX8_seek_126 : decode cX8_seek 126 = .ok (.iload 5, 2) := by decide +kernel
theorem dX8_seek_128 : decode cX8_seek 128 = .ok (.ishl, 1) := by decide +kernel
theorem dX8_seek_129 : decode cX8_seek 129 = .ok (.ior, 1) := by decide +kernel
theorem dX8_seek_130 : decode cX8_seek 130 = .ok (.iload_n 3, 1) := by decide +kernel
theorem dX8_seek_131 : decode cX8_seek 131 = .ok (.aload_n 0, 1) := by decide +kernel
theorem dX8_seek_132 : decode cX8_seek 132 = .ok (.getfield 31, 3) := by decide +kernel
theorem dX8_seek_135 : decode cX8_seek 135 = .ok (.iload 5, 2) := by decide +kernel
theorem dX8_seek_137 : decode cX8_seek 137 = .ok (.aaload, 1) := by decide +kernel
theorem dX8_seek_138 : decode cX8_seek 138 = .ok (.bipush 6, 2) := by decide +kernel
theorem dX8_seek_140 : decode cX8_seek 140 = .ok (.iaload, 1) := by decide +kernel
theorem dX8_seek_141 : decode cX8_seek 141 = .ok (.iadd, 1) := by decide +kernel
theorem dX8_seek_142 : decode cX8_seek 142 = .ok (.aload_n 0, 1) := by decide +kernel
theorem dX8_seek_143 : decode cX8_seek 143 = .ok (.iload_n 1, 1) := by decide +kernel
theorem dX8_seek_144 : decode cX8_seek 144 = .ok (.iload 5, 2) := by decide +kernel
theorem dX8_seek_146 : decode cX8_seek 146 = .ok (.invokevirtual 205, 3) := by decide +kernel
theorem dX8_seek_149 : decode cX8_seek 149 = .ok (.isub, 1) := by decide +kernel
theorem dX8_seek_150 : decode cX8_seek 150 = .ok (.iload 4, 2) := by decide +kernel
theorem dX8_seek_152 : decode cX8_seek 152 = .ok (.invokevirtual 211, 3) := by decide +kernel
theorem dX8_seek_155 : decode cX8_seek 155 = .ok (.iinc 5 1, 3) := by decide +kernel
theorem dX8_seek_158 : decode cX8_seek 158 = .ok (.goto (-82), 3) := by decide +kernel
theorem dX8_seek_161 : decode cX8_seek 161 = .ok (.aload_n 0, 1) := by decide +kernel
theorem dX8_seek_162 : decode cX8_seek 162 = .ok (.getfield 55, 3) := by decide +kernel
theorem dX8_seek_165 : decode cX8_seek 165 = .ok (.iload_n 1, 1) := by decide +kernel
theorem dX8_seek_166 : decode cX8_seek 166 = .ok (.bipush (-9), 2) := by decide +kernel
theorem dX8_seek_168 : decode cX8_seek 168 = .ok (.iastore, 1) := by decide +kernel
theorem dX8_seek_169 : decode cX8_seek 169 = .ok (.return_, 1) := by decide +kernel
theorem dX8_eachBy_0 : decode cX8_eachBy 0 = .ok (.aload_n 0, 1) := by decide +kernel
theorem dX8_eachBy_1 : decode cX8_eachBy 1 = .ok (.invokevirtual 139, 3) := by decide +kernel
theorem dX8_eachBy_4 : decode cX8_eachBy 4 = .ok (.aload_n 0, 1) := by decide +kernel
theorem dX8_eachBy_5 : decode cX8_eachBy 5 = .ok (.iconst 0, 1) := by decide +kernel
theorem dX8_eachBy_6 : decode cX8_eachBy 6 = .ok (.putfield 208, 3) := by decide +kernel
theorem dX8_eachBy_9 : decode cX8_eachBy 9 = .ok (.iconst 0, 1) := by decide +kernel
theorem dX8_eachBy_10 : decode cX8_eachBy 10 = .ok (.istore_n 2, 1) := by decide +kernel
theorem dX8_eachBy_11 : decode cX8_eachBy 11 = .ok (.iload_n 2, 1) := by decide +kernel
theorem dX8_eachBy_12 : decode cX8_eachBy 12 = .ok (.aload_n 0, 1) := by decide +kernel
theorem dX8_eachBy_13 : decode cX8_eachBy 13 = .ok (.getfield 65, 3) := by decide +kernel
theorem dX8_eachBy_16 : decode cX8_eachBy 16 = .ok (.if_icmp .ge 17, 3) := by decide +kernel
theorem dX8_eachBy_19 : decode cX8_eachBy 19 = .ok (.aload_n 0, 1) := by decide +kernel
theorem dX8_eachBy_20 : decode cX8_eachBy 20 = .ok (.getfield 58, 3) := by decide +kernel
theorem dX8_eachBy_23 : decode cX8_eachBy 23 = .ok (.iload_n 2, 1) := by decide +kernel
theorem dX8_eachBy_24 : decode cX8_eachBy 24 = .ok (.bipush (-9), 2) := by decide +kernel
theorem dX8_eachBy_26 : decode cX8_eachBy 26 = .ok (.iastore, 1) := by decide +kernel
theorem dX8_eachBy_27 : decode cX8_eachBy 27 = .ok (.iinc 2 1, 3) := by decide +kernel
theorem dX8_eachBy_30 : decode cX8_eachBy 30 = .ok (.goto (-19), 3) := by decide +kernel
theorem dX8_eachBy_33 : decode cX8_eachBy 33 = .ok (.aload_n 0, 1) := by decide +kernel
theorem dX8_eachBy_34 : decode cX8_eachBy 34 = .ok (.iconst 0, 1) := by decide +kernel
theorem dX8_eachBy_35 : decode cX8_eachBy 35 = .ok (.iconst 0, 1) := by decide +kernel
theorem dX8_eachBy_36 : decode cX8_eachBy 36 = .ok (.iconst 0, 1) := by decide +kernel
theorem dX8_eachBy_37 : decode cX8_eachBy 37 = .ok (.iload_n 1, 1) := by decide +kernel
theorem dX8_eachBy_38 : decode cX8_eachBy 38 = .ok (.invokevirtual 211, 3) := by decide +kernel
theorem dX8_eachBy_41 : decode cX8_eachBy 41 = .ok (.aload_n 0, 1) := by decide +kernel
theorem dX8_eachBy_42 : decode cX8_eachBy 42 = .ok (.getfield 208, 3) := by decide +kernel
theorem dX8_eachBy_45 : decode cX8_eachBy 45 = .ok (.ireturn, 1) := by decide +kernel
theorem dX8_each_0 : decode cX8_each 0 = .ok (.iload_n 1, 1) := by decide +kernel
theorem dX8_each_1 : decode cX8_each 1 = .ok (.iconst (-1), 1) := by decide +kernel
theorem dX8_each_2 : decode cX8_each 2 = .ok (.if_icmp .eq 17, 3) := by decide +kernel
theorem dX8_each_5 : decode cX8_each 5 = .ok (.aload_n 0, 1) := by decide +kernel
theorem dX8_each_6 : decode cX8_each 6 = .ok (.iload_n 1, 1) := by decide +kernel
theorem dX8_each_7 : decode cX8_each 7 = .ok (.invokevirtual 108, 3) := by decide +kernel
theorem dX8_each_10 : decode cX8_each 10 = .ok (.ifCond .ne 9, 3) := by decide +kernel
theorem dX8_each_13 : decode cX8_each 13 = .ok (.aload_n 0, 1) := by decide +kernel
theorem dX8_each_14 : decode cX8_each 14 = .ok (.iconst (-1), 1) := by decide +kernel
theorem dX8_each_15 : decode cX8_each 15 = .ok (.invokevirtual 71, 3) := by decide +kernel
theorem dX8_each_18 : decode cX8_each 18 = .ok (.ireturn, 1) := by decide +kernel
theorem dX8_each_19 : decode cX8_each 19 = .ok (.aload_n 0, 1) := by decide +kernel
theorem dX8_each_20 : decode cX8_each 20 = .ok (.bipush (-9), 2) := by decide +kernel
theorem dX8_each_22 : decode cX8_each 22 = .ok (.invokevirtual 215, 3) := by decide +kernel
theorem dX8_each_25 : decode cX8_each 25 = .ok (.istore_n 2, 1) := by decide +kernel
theorem dX8_each_26 : decode cX8_each 26 = .ok (.iload_n 1, 1) := by decide +kernel
theorem dX8_each_27 : decode cX8_each 27 = .ok (.iconst (-1), 1) := by decide +kernel
theorem dX8_each_28 : decode cX8_each 28 = .ok (.if_icmp .ne 7, 3) := by decide +kernel
theorem dX8_each_31 : decode cX8_each 31 = .ok (.iload_n 2, 1) := by decide +kernel
theorem dX8_each_32 : decode cX8_each 32 = .ok (.goto 9, 3) := by decide +kernel
theorem dX8_each_35 : decode cX8_each 35 = .ok (.aload_n 0, 1) := by decide +kernel
theorem dX8_each_36 : decode cX8_each 36 = .ok (.getfield 58, 3) := by decide +kernel
theorem dX8_each_39 : decode cX8_each 39 = .ok (.iload_n 1, 1) := by decide +kernel
theorem dX8_each_40 : decode cX8_each 40 = .ok (.iaload, 1) := by decide +kernel
theorem dX8_each_41 : decode cX8_each 41 = .ok (.ireturn, 1) := by decide +kernel
theorem dX8_pay_0 : decode cX8_pay 0 = .ok (.aload_n 0, 1) := by decide +kernel
theorem dX8_pay_1 : decode cX8_pay 1 = .ok (.iload_n 1, 1) := by decide +kernel
theorem dX8_pay_2 : decode cX8_pay 2 = .ok (.invokevirtual 108, 3) := by decide +kernel
theorem dX8_pay_5 : decode cX8_pay 5 = .ok (.ifCond .ne 9, 3) := by decide +kernel
theorem dX8_pay_8 : decode cX8_pay 8 = .ok (.aload_n 0, 1) := by decide +kernel
theorem dX8_pay_9 : decode cX8_pay 9 = .ok (.iconst (-1), 1) := by decide +kernel
theorem dX8_pay_10 : decode cX8_pay 10 = .ok (.invokevirtual 71, 3) := by decide +kernel
theorem dX8_pay_13 : decode cX8_pay 13 = .ok (.ireturn, 1) := by decide +kernel
theorem dX8_pay_14 : decode cX8_pay 14 = .ok (.aload_n 0, 1) := by decide +kernel
theorem dX8_pay_15 : decode cX8_pay 15 = .ok (.bipush (-9), 2) := by decide +kernel
theorem dX8_pay_17 : decode cX8_pay 17 = .ok (.invokevirtual 215, 3) := by decide +kernel
theorem dX8_pay_20 : decode cX8_pay 20 = .ok (.aload_n 0, 1) := by decide +kernel
theorem dX8_pay_21 : decode cX8_pay 21 = .ok (.iload_n 1, 1) := by decide +kernel
theorem dX8_pay_22 : decode cX8_pay 22 = .ok (.invokevirtual 215, 3) := by decide +kernel
theorem dX8_pay_25 : decode cX8_pay 25 = .ok (.isub, 1) := by decide +kernel
theorem dX8_pay_26 : decode cX8_pay 26 = .ok (.ireturn, 1) := by decide +kernel
theorem dX8_isInTime_0 : decode cX8_isInTime 0 = .ok (.aload_n 0, 1) := by decide +kernel
theorem dX8_isInTime_1 : decode cX8_isInTime 1 = .ok (.aload_n 0, 1) := by decide +kernel
theorem dX8_isInTime_2 : decode cX8_isInTime 2 = .ok (.getfield 148, 3) := by decide +kernel
theorem dX8_isInTime_5 : decode cX8_isInTime 5 = .ok (.iload_n 1, 1) := by decide +kernel
theorem dX8_isInTime_6 : decode cX8_isInTime 6 = .ok (.bipush (-9), 2) := by decide +kernel
theorem dX8_isInTime_8 : decode cX8_isInTime 8 = .ok (.invokevirtual 188, 3) := by decide +kernel
theorem dX8_isInTime_11 : decode cX8_isInTime 11 = .ok (.istore_n 2, 1) := by decide +kernel
theorem dX8_isInTime_12 : decode cX8_isInTime 12 = .ok (.iload_n 2, 1) := by decide +kernel
theorem dX8_isInTime_13 : decode cX8_isInTime 13 = .ok (.bipush (-9), 2) := by decide +kernel
theorem dX8_isInTime_15 : decode cX8_isInTime 15 = .ok (.if_icmp .eq 19, 3) := by decide +kernel
theorem dX8_isInTime_18 : decode cX8_isInTime 18 = .ok (.iload_n 2, 1) := by decide +kernel
theorem dX8_isInTime_19 : decode cX8_isInTime 19 = .ok (.aload_n 0, 1) := by decide +kernel
theorem dX8_isInTime_20 : decode cX8_isInTime 20 = .ok (.getfield 31, 3) := by decide +kernel
theorem dX8_isInTime_23 : decode cX8_isInTime 23 = .ok (.iload_n 1, 1) := by decide +kernel
theorem dX8_isInTime_24 : decode cX8_isInTime 24 = .ok (.aaload, 1) := by decide +kernel
theorem dX8_isInTime_25 : decode cX8_isInTime 25 = .ok (.iconst 5, 1) := by decide +kernel
theorem dX8_isInTime_26 : decode cX8_isInTime 26 = .ok (.iaload, 1) := by decide +kernel
theorem dX8_isInTime_27 : decode cX8_isInTime 27 = .ok (.if_icmp .gt 7, 3) := by decide +kernel
theorem dX8_isInTime_30 : decode cX8_isInTime 30 = .ok (.iconst 1, 1) := by decide +kernel
theorem dX8_isInTime_31 : decode cX8_isInTime 31 = .ok (.goto 4, 3) := by decide +kernel
theorem dX8_isInTime_34 : decode cX8_isInTime 34 = .ok (.iconst 0, 1) := by decide +kernel
theorem dX8_isInTime_35 : decode cX8_isInTime 35 = .ok (.ireturn, 1) := by decide +kernel
theorem dX8_fewest_0 : decode cX8_fewest 0 = .ok (.aload_n 0, 1) := by decide +kernel
theorem dX8_fewest_1 : decode cX8_fewest 1 = .ok (.invokevirtual 185, 3) := by decide +kernel
theorem dX8_fewest_4 : decode cX8_fewest 4 = .ok (.iconst 0, 1) := by decide +kernel
theorem dX8_fewest_5 : decode cX8_fewest 5 = .ok (.istore_n 1, 1) := by decide +kernel
theorem dX8_fewest_6 : decode cX8_fewest 6 = .ok (.iconst 0, 1) := by decide +kernel
theorem dX8_fewest_7 : decode cX8_fewest 7 = .ok (.istore_n 2, 1) := by decide +kernel
theorem dX8_fewest_8 : decode cX8_fewest 8 = .ok (.iload_n 2, 1) := by decide +kernel
theorem dX8_fewest_9 : decode cX8_fewest 9 = .ok (.aload_n 0, 1) := by decide +kernel
theorem dX8_fewest_10 : decode cX8_fewest 10 = .ok (.getfield 68, 3) := by decide +kernel
theorem dX8_fewest_13 : decode cX8_fewest 13 = .ok (.if_icmp .ge 72, 3) := by decide +kernel
theorem dX8_fewest_16 : decode cX8_fewest 16 = .ok (.aload_n 0, 1) := by decide +kernel
theorem dX8_fewest_17 : decode cX8_fewest 17 = .ok (.iload_n 2, 1) := by decide +kernel
theorem dX8_fewest_18 : decode cX8_fewest 18 = .ok (.invokevirtual 218, 3) := by decide +kernel
theorem dX8_fewest_21 : decode cX8_fewest 21 = .ok (.ifCond .ne 58, 3) := by decide +kernel
theorem dX8_fewest_24 : decode cX8_fewest 24 = .ok (.aload_n 0, 1) := by decide +kernel
theorem dX8_fewest_25 : decode cX8_fewest 25 = .ok (.getfield 37, 3) := by decide +kernel
theorem dX8_fewest_28 : decode cX8_fewest 28 = .ok (.iconst 0, 1) := by decide +kernel
theorem dX8_fewest_29 : decode cX8_fewest 29 = .ok (.aaload, 1) := by decide +kernel
theorem dX8_fewest_30 : decode cX8_fewest 30 = .ok (.aload_n 0, 1) := by decide +kernel
theorem dX8_fewest_31 : decode cX8_fewest 31 = .ok (.getfield 31, 3) := by decide +kernel
theorem dX8_fewest_34 : decode cX8_fewest 34 = .ok (.iload_n 2, 1) := by decide +kernel
theorem dX8_fewest_35 : decode cX8_fewest 35 = .ok (.aaload, 1) := by decide +kernel
theorem dX8_fewest_36 : decode cX8_fewest 36 = .ok (.iconst 2, 1) := by decide +kernel
theorem dX8_fewest_37 : decode cX8_fewest 37 = .ok (.iaload, 1) := by decide +kernel
theorem dX8_fewest_38 : decode cX8_fewest 38 = .ok (.iaload, 1) := by decide +kernel
theorem dX8_fewest_39 : decode cX8_fewest 39 = .ok (.aload_n 0, 1) := by decide +kernel
theorem dX8_fewest_40 : decode cX8_fewest 40 = .ok (.getfield 37, 3) := by decide +kernel
theorem dX8_fewest_43 : decode cX8_fewest 43 = .ok (.aload_n 0, 1) := by decide +kernel
theorem dX8_fewest_44 : decode cX8_fewest 44 = .ok (.getfield 31, 3) := by decide +kernel
theorem dX8_fewest_47 : decode cX8_fewest 47 = .ok (.iload_n 2, 1) := by decide +kernel
theorem dX8_fewest_48 : decode cX8_fewest 48 = .ok (.aaload, 1) := by decide +kernel
theorem dX8_fewest_49 : decode cX8_fewest 49 = .ok (.iconst 2, 1) := by decide +kernel
theorem dX8_fewest_50 : decode cX8_fewest 50 = .ok (.iaload, 1) := by decide +kernel
theorem dX8_fewest_51 : decode cX8_fewest 51 = .ok (.aaload, 1) := by decide +kernel
theorem dX8_fewest_52 : decode cX8_fewest 52 = .ok (.aload_n 0, 1) := by decide +kernel
theorem dX8_fewest_53 : decode cX8_fewest 53 = .ok (.getfield 31, 3) := by decide +kernel
theorem dX8_fewest_56 : decode cX8_fewest 56 = .ok (.iload_n 2, 1) := by decide +kernel
theorem dX8_fewest_57 : decode cX8_fewest 57 = .ok (.aaload, 1) := by decide +kernel
theorem dX8_fewest_58 : decode cX8_fewest 58 = .ok (.iconst 3, 1) := by decide +kernel
theorem dX8_fewest_59 : decode cX8_fewest 59 = .ok (.iaload, 1) := by decide +kernel
theorem dX8_fewest_60 : decode cX8_fewest 60 = .ok (.iaload, 1) := by decide +kernel
theorem dX8_fewest_61 : decode cX8_fewest 61 = .ok (.iadd, 1) := by decide +kernel
theorem dX8_fewest_62 : decode cX8_fewest 62 = .ok (.aload_n 0, 1) := by decide +kernel
theorem dX8_fewest_63 : decode cX8_fewest 63 = .ok (.getfield 31, 3) := by decide +kernel
theorem dX8_fewest_66 : decode cX8_fewest 66 = .ok (.iload_n 2, 1) := by decide +kernel
theorem dX8_fewest_67 : decode cX8_fewest 67 = .ok (.aaload, 1) := by decide +kernel
theorem dX8_fewest_68 : decode cX8_fewest 68 = .ok (.iconst 5, 1) := by decide +kernel
theorem dX8_fewest_69 : decode cX8_fewest 69 = .ok (.iaload, 1) := by decide +kernel
theorem dX8_fewest_70 : decode cX8_fewest 70 = .ok (.if_icmp .le 6, 3) := by decide +kernel
theorem dX8_fewest_73 : decode cX8_fewest 73 = .ok (.bipush (-9), 2) := by decide +kernel
theorem dX8_fewest_75 : decode cX8_fewest 75 = .ok (.ireturn, 1) := by decide +kernel
theorem dX8_fewest_76 : decode cX8_fewest 76 = .ok (.iinc 1 1, 3) := by decide +kernel
theorem dX8_fewest_79 : decode cX8_fewest 79 = .ok (.iinc 2 1, 3) := by decide +kernel
theorem dX8_fewest_82 : decode cX8_fewest 82 = .ok (.goto (-74), 3) := by decide +kernel
theorem dX8_fewest_85 : decode cX8_fewest 85 = .ok (.iload_n 1, 1) := by decide +kernel
theorem dX8_fewest_86 : decode cX8_fewest 86 = .ok (.ireturn, 1) := by decide +kernel
theorem dX8_sumBy_0 : decode cX8_sumBy 0 = .ok (.aload_n 0, 1) := by decide +kernel
theorem dX8_sumBy_1 : decode cX8_sumBy 1 = .ok (.invokevirtual 185, 3) := by decide +kernel
theorem dX8_sumBy_4 : decode cX8_sumBy 4 = .ok (.iconst 0, 1) := by decide +kernel
theorem dX8_sumBy_5 : decode cX8_sumBy 5 = .ok (.istore_n 2, 1) := by decide +kernel
theorem dX8_sumBy_6 : decode cX8_sumBy 6 = .ok (.iconst 0, 1) := by decide +kernel
theorem dX8_sumBy_7 : decode cX8_sumBy 7 = .ok (.istore_n 3, 1) := by decide +kernel
theorem dX8_sumBy_8 : decode cX8_sumBy 8 = .ok (.iload_n 3, 1) := by decide +kernel
theorem dX8_sumBy_9 : decode cX8_sumBy 9 = .ok (.aload_n 0, 1) := by decide +kernel
theorem dX8_sumBy_10 : decode cX8_sumBy 10 = .ok (.getfield 68, 3) := by decide +kernel
theorem dX8_sumBy_13 : decode cX8_sumBy 13 = .ok (.if_icmp .ge 37, 3) := by decide +kernel
theorem dX8_sumBy_16 : decode cX8_sumBy 16 = .ok (.aload_n 0, 1) := by decide +kernel
theorem dX8_sumBy_17 : decode cX8_sumBy 17 = .ok (.iload_n 1, 1) := by decide +kernel
theorem dX8_sumBy_18 : decode cX8_sumBy 18 = .ok (.iload_n 3, 1) := by decide +kernel
theorem dX8_sumBy_19 : decode cX8_sumBy 19 = .ok (.bipush (-9), 2) := by decide +kernel
theorem dX8_sumBy_21 : decode cX8_sumBy 21 = .ok (.invokevirtual 188, 3) := by decide +kernel
theorem dX8_sumBy_24 : decode cX8_sumBy 24 = .ok (.istore 4, 2) := by decide +kernel
theorem dX8_sumBy_26 : decode cX8_sumBy 26 = .ok (.iload_n 2, 1) := by decide +kernel
theorem dX8_sumBy_27 : decode cX8_sumBy 27 = .ok (.iload 4, 2) := by decide +kernel
theorem dX8_sumBy_29 : decode cX8_sumBy 29 = .ok (.bipush (-9), 2) := by decide +kernel
theorem dX8_sumBy_31 : decode cX8_sumBy 31 = .ok (.if_icmp .ne 9, 3) := by decide +kernel
theorem dX8_sumBy_34 : decode cX8_sumBy 34 = .ok (.sipush 999, 3) := by decide +kernel
theorem dX8_sumBy_37 : decode cX8_sumBy 37 = .ok (.goto 5, 3) := by decide +kernel
theorem dX8_sumBy_40 : decode cX8_sumBy 40 = .ok (.iload 4, 2) := by decide +kernel
theorem dX8_sumBy_42 : decode cX8_sumBy 42 = .ok (.iadd, 1) := by decide +kernel
theorem dX8_sumBy_43 : decode cX8_sumBy 43 = .ok (.istore_n 2, 1) := by decide +kernel
theorem dX8_sumBy_44 : decode cX8_sumBy 44 = .ok (.iinc 3 1, 3) := by decide +kernel
theorem dX8_sumBy_47 : decode cX8_sumBy 47 = .ok (.goto (-39), 3) := by decide +kernel
theorem dX8_sumBy_50 : decode cX8_sumBy 50 = .ok (.iload_n 2, 1) := by decide +kernel
theorem dX8_sumBy_51 : decode cX8_sumBy 51 = .ok (.ireturn, 1) := by decide +kernel
theorem dX8_beside_0 : decode cX8_beside 0 = .ok (.aload_n 0, 1) := by decide +kernel
theorem dX8_beside_1 : decode cX8_beside 1 = .ok (.aload_n 0, 1) := by decide +kernel
theorem dX8_beside_2 : decode cX8_beside 2 = .ok (.getfield 148, 3) := by decide +kernel
theorem dX8_beside_5 : decode cX8_beside 5 = .ok (.invokevirtual 221, 3) := by decide +kernel
theorem dX8_beside_8 : decode cX8_beside 8 = .ok (.aload_n 0, 1) := by decide +kernel
theorem dX8_beside_9 : decode cX8_beside 9 = .ok (.iconst 3, 1) := by decide +kernel
theorem dX8_beside_10 : decode cX8_beside 10 = .ok (.invokevirtual 221, 3) := by decide +kernel
theorem dX8_beside_13 : decode cX8_beside 13 = .ok (.isub, 1) := by decide +kernel
theorem dX8_beside_14 : decode cX8_beside 14 = .ok (.ireturn, 1) := by decide +kernel
theorem dX8_change_0 : decode cX8_change 0 = .ok (.iconst 0, 1) := by decide +kernel
theorem dX8_change_1 : decode cX8_change 1 = .ok (.istore_n 3, 1) := by decide +kernel
theorem dX8_change_2 : decode cX8_change 2 = .ok (.iload_n 3, 1) := by decide +kernel
theorem dX8_change_3 : decode cX8_change 3 = .ok (.iconst 2, 1) := by decide +kernel
theorem dX8_change_4 : decode cX8_change 4 = .ok (.if_icmp .ge 45, 3) := by decide +kernel
theorem dX8_change_7 : decode cX8_change 7 = .ok (.aload_n 0, 1) := by decide +kernel
theorem dX8_change_8 : decode cX8_change 8 = .ok (.getfield 28, 3) := by decide +kernel
theorem dX8_change_11 : decode cX8_change 11 = .ok (.iload_n 1, 1) := by decide +kernel
theorem dX8_change_12 : decode cX8_change 12 = .ok (.aaload, 1) := by decide +kernel
theorem dX8_change_13 : decode cX8_change 13 = .ok (.iload_n 3, 1) := by decide +kernel
theorem dX8_change_14 : decode cX8_change 14 = .ok (.iaload, 1) := by decide +kernel
theorem dX8_change_15 : decode cX8_change 15 = .ok (.istore 4, 2) := by decide +kernel
theorem dX8_change_17 : decode cX8_change 17 = .ok (.aload_n 0, 1) := by decide +kernel
theorem dX8_change_18 : decode cX8_change 18 = .ok (.getfield 28, 3) := by decide +kernel
theorem dX8_change_21 : decode cX8_change 21 = .ok (.iload_n 1, 1) := by decide +kernel
theorem dX8_change_22 : decode cX8_change 22 = .ok (.aaload, 1) := by decide +kernel
theorem dX8_change_23 : decode cX8_change 23 = .ok (.iload_n 3, 1) := by decide +kernel
theorem dX8_change_24 : decode cX8_change 24 = .ok (.aload_n 0, 1) := by decide +kernel
theorem dX8_change_25 : decode cX8_change 25 = .ok (.getfield 28, 3) := by decide +kernel
theorem dX8_change_28 : decode cX8_change 28 = .ok (.iload_n 2, 1) := by decide +kernel
theorem dX8_change_29 : decode cX8_change 29 = .ok (.aaload, 1) := by decide +kernel
theorem dX8_change_30 : decode cX8_change 30 = .ok (.iload_n 3, 1) := by decide +kernel
theorem dX8_change_31 : decode cX8_change 31 = .ok (.iaload, 1) := by decide +kernel
theorem dX8_change_32 : decode cX8_change 32 = .ok (.iastore, 1) := by decide +kernel
theorem dX8_change_33 : decode cX8_change 33 = .ok (.aload_n 0, 1) := by decide +kernel
theorem dX8_change_34 : decode cX8_change 34 = .ok (.getfield 28, 3) := by decide +kernel
theorem dX8_change_37 : decode cX8_change 37 = .ok (.iload_n 2, 1) := by decide +kernel
theorem dX8_change_38 : decode cX8_change 38 = .ok (.aaload, 1) := by decide +kernel
theorem dX8_change_39 : decode cX8_change 39 = .ok (.iload_n 3, 1) := by decide +kernel
theorem dX8_change_40 : decode cX8_change 40 = .ok (.iload 4, 2) := by decide +kernel
theorem dX8_change_42 : decode cX8_change 42 = .ok (.iastore, 1) := by decide +kernel
theorem dX8_change_43 : decode cX8_change 43 = .ok (.iinc 3 1, 3) := by decide +kernel
theorem dX8_change_46 : decode cX8_change 46 = .ok (.goto (-44), 3) := by decide +kernel
theorem dX8_change_49 : decode cX8_change 49 = .ok (.return_, 1) := by decide +kernel
theorem dX8_houses_0 : decode cX8_houses 0 = .ok (.aload_n 0, 1) := by decide +kernel
theorem dX8_houses_1 : decode cX8_houses 1 = .ok (.aload_n 0, 1) := by decide +kernel
theorem dX8_houses_2 : decode cX8_houses 2 = .ok (.getfield 148, 3) := by decide +kernel
theorem dX8_houses_5 : decode cX8_houses 5 = .ok (.invokevirtual 221, 3) := by decide +kernel
theorem dX8_houses_8 : decode cX8_houses 8 = .ok (.istore_n 1, 1) := by decide +kernel
theorem dX8_houses_9 : decode cX8_houses 9 = .ok (.bipush (-9), 2) := by decide +kernel
theorem dX8_houses_11 : decode cX8_houses 11 = .ok (.istore_n 2, 1) := by decide +kernel
theorem dX8_houses_12 : decode cX8_houses 12 = .ok (.iconst 0, 1) := by decide +kernel
theorem dX8_houses_13 : decode cX8_houses 13 = .ok (.istore_n 3, 1) := by decide +kernel
theorem dX8_houses_14 : decode cX8_houses 14 = .ok (.iload_n 3, 1) := by decide +kernel
theorem dX8_houses_15 : decode cX8_houses 15 = .ok (.aload_n 0, 1) := by decide +kernel
theorem dX8_houses_16 : decode cX8_houses 16 = .ok (.getfield 65, 3) := by decide +kernel
theorem dX8_houses_19 : decode cX8_houses 19 = .ok (.if_icmp .ge 70, 3) := by decide +kernel
theorem dX8_houses_22 : decode cX8_houses 22 = .ok (.iload_n 3, 1) := by decide +kernel
theorem dX8_houses_23 : decode cX8_houses 23 = .ok (.iconst 1, 1) := by decide +kernel
theorem dX8_houses_24 : decode cX8_houses 24 = .ok (.iadd, 1) := by decide +kernel
theorem dX8_houses_25 : decode cX8_houses 25 = .ok (.istore 4, 2) := by decide +kernel
theorem dX8_houses_27 : decode cX8_houses 27 = .ok (.iload 4, 2) := by decide +kernel
theorem dX8_houses_29 : decode cX8_houses 29 = .ok (.aload_n 0, 1) := by decide +kernel
theorem dX8_houses_30 : decode cX8_houses 30 = .ok (.getfield 65, 3) := by decide +kernel
theorem dX8_houses_33 : decode cX8_houses 33 = .ok (.if_icmp .ge 50, 3) := by decide +kernel
theorem dX8_houses_36 : decode cX8_houses 36 = .ok (.aload_n 0, 1) := by decide +kernel
theorem dX8_houses_37 : decode cX8_houses 37 = .ok (.iload_n 3, 1) := by decide +kernel
theorem dX8_houses_38 : decode cX8_houses 38 = .ok (.iload 4, 2) := by decide +kernel
theorem dX8_houses_40 : decode cX8_houses 40 = .ok (.invokevirtual 224, 3) := by decide +kernel
theorem dX8_houses_43 : decode cX8_houses 43 = .ok (.aload_n 0, 1) := by decide +kernel
theorem dX8_houses_44 : decode cX8_houses 44 = .ok (.aload_n 0, 1) := by decide +kernel
theorem dX8_houses_45 : decode cX8_houses 45 = .ok (.getfield 148, 3) := by decide +kernel
theorem dX8_houses_48 : decode cX8_houses 48 = .ok (.invokevirtual 221, 3) := by decide +kernel
theorem dX8_houses_51 : decode cX8_houses 51 = .ok (.istore 5, 2) := by decide +kernel
theorem dX8_houses_53 : decode cX8_houses 53 = .ok (.aload_n 0, 1) := by decide +kernel
theorem dX8_houses_54 : decode cX8_houses 54 = .ok (.iload_n 3, 1) := by decide +kernel
theorem dX8_houses_55 : decode cX8_houses 55 = .ok (.iload 4, 2) := by decide +kernel
theorem dX8_houses_57 : decode cX8_houses 57 = .ok (.invokevirtual 224, 3) := by decide +kernel
theorem dX8_houses_60 : decode cX8_houses 60 = .ok (.iload 5, 2) := by decide +kernel
theorem dX8_houses_62 : decode cX8_houses 62 = .ok (.iload_n 1, 1) := by decide +kernel
theorem dX8_houses_63 : decode cX8_houses 63 = .ok (.if_icmp .ge 14, 3) := by decide +kernel
theorem dX8_houses_66 : decode cX8_houses 66 = .ok (.iload 5, 2) := by decide +kernel
theorem dX8_houses_68 : decode cX8_houses 68 = .ok (.istore_n 1, 1) := by decide +kernel
theorem dX8_houses_69 : decode cX8_houses 69 = .ok (.bipush 10, 2) := by decide +kernel
theorem dX8_houses_71 : decode cX8_houses 71 = .ok (.iload_n 3, 1) := by decide +kernel
theorem dX8_houses_72 : decode cX8_houses 72 = .ok (.imul, 1) := by decide +kernel
theorem dX8_houses_73 : decode cX8_houses 73 = .ok (.iload 4, 2) := by decide +kernel
theorem dX8_houses_75 : decode cX8_houses 75 = .ok (.iadd, 1) := by decide +kernel
theorem dX8_houses_76 : decode cX8_houses 76 = .ok (.istore_n 2, 1) := by decide +kernel
theorem dX8_houses_77 : decode cX8_houses 77 = .ok (.iinc 4 1, 3) := by decide +kernel
theorem dX8_houses_80 : decode cX8_houses 80 = .ok (.goto (-53), 3) := by decide +kernel
theorem dX8_houses_83 : decode cX8_houses 83 = .ok (.iinc 3 1, 3) := by decide +kernel
theorem dX8_houses_86 : decode cX8_houses 86 = .ok (.goto (-72), 3) := by decide +kernel
theorem dX8_houses_89 : decode cX8_houses 89 = .ok (.iload_n 2, 1) := by decide +kernel
theorem dX8_houses_90 : decode cX8_houses 90 = .ok (.ireturn, 1) := by decide +kernel
theorem dX8_draw_0 : decode cX8_draw 0 = .ok (.aload_n 0, 1) := by decide +kernel
theorem dX8_draw_1 : decode cX8_draw 1 = .ok (.aload_n 0, 1) := by decide +kernel
theorem dX8_draw_2 : decode cX8_draw 2 = .ok (.getfield 228, 3) := by decide +kernel
theorem dX8_draw_5 : decode cX8_draw 5 = .ok (.ldc 231, 2) := by decide +kernel
theorem dX8_draw_7 : decode cX8_draw 7 = .ok (.imul, 1) := by decide +kernel
theorem dX8_draw_8 : decode cX8_draw 8 = .ok (.ldc 232, 2) := by decide +kernel
theorem dX8_draw_10 : decode cX8_draw 10 = .ok (.iadd, 1) := by decide +kernel
theorem dX8_draw_11 : decode cX8_draw 11 = .ok (.putfield 228, 3) := by decide +kernel
theorem dX8_draw_14 : decode cX8_draw 14 = .ok (.aload_n 0, 1) := by decide +kernel
theorem dX8_draw_15 : decode cX8_draw 15 = .ok (.getfield 228, 3) := by decide +kernel
theorem dX8_draw_18 : decode cX8_draw 18 = .ok (.ldc 233, 2) := by decide +kernel
theorem dX8_draw_20 : decode cX8_draw 20 = .ok (.iand, 1) := by decide +kernel
theorem dX8_draw_21 : decode cX8_draw 21 = .ok (.sipush 256, 3) := by decide +kernel
theorem dX8_draw_24 : decode cX8_draw 24 = .ok (.idiv, 1) := by decide +kernel
theorem dX8_draw_25 : decode cX8_draw 25 = .ok (.iload_n 1, 1) := by decide +kernel
theorem dX8_draw_26 : decode cX8_draw 26 = .ok (.irem, 1) := by decide +kernel
theorem dX8_draw_27 : decode cX8_draw 27 = .ok (.ireturn, 1) := by decide +kernel
theorem dX8_days_0 : decode cX8_days 0 = .ok (.iload_n 1, 1) := by decide +kernel
theorem dX8_days_1 : decode cX8_days 1 = .ok (.iconst 1, 1) := by decide +kernel
theorem dX8_days_2 : decode cX8_days 2 = .ok (.if_icmp .ge 10, 3) := by decide +kernel
theorem dX8_days_5 : decode cX8_days 5 = .ok (.aload_n 0, 1) := by decide +kernel
theorem dX8_days_6 : decode cX8_days 6 = .ok (.bipush (-4), 2) := by decide +kernel
theorem dX8_days_8 : decode cX8_days 8 = .ok (.invokevirtual 71, 3) := by decide +kernel
theorem dX8_days_11 : decode cX8_days 11 = .ok (.ireturn, 1) := by decide +kernel
theorem dX8_days_12 : decode cX8_days 12 = .ok (.iload_n 1, 1) := by decide +kernel
theorem dX8_days_13 : decode cX8_days 13 = .ok (.bipush 14, 2) := by decide +kernel
theorem dX8_days_15 : decode cX8_days 15 = .ok (.if_icmp .le 10, 3) := by decide +kernel
theorem dX8_days_18 : decode cX8_days 18 = .ok (.aload_n 0, 1) := by decide +kernel
theorem dX8_days_19 : decode cX8_days 19 = .ok (.bipush (-6), 2) := by decide +kernel
theorem dX8_days_21 : decode cX8_days 21 = .ok (.invokevirtual 71, 3) := by decide +kernel
theorem dX8_days_24 : decode cX8_days 24 = .ok (.ireturn, 1) := by decide +kernel
theorem dX8_days_25 : decode cX8_days 25 = .ok (.aload_n 0, 1) := by decide +kernel
theorem dX8_days_26 : decode cX8_days 26 = .ok (.getfield 234, 3) := by decide +kernel
theorem dX8_days_29 : decode cX8_days 29 = .ok (.ifnonnull 14, 3) := by decide +kernel
theorem dX8_days_32 : decode cX8_days 32 = .ok (.aload_n 0, 1) := by decide +kernel
theorem dX8_days_33 : decode cX8_days 33 = .ok (.new 7, 3) := by decide +kernel
theorem dX8_days_36 : decode cX8_days 36 = .ok (.dup, 1) := by decide +kernel
theorem dX8_days_37 : decode cX8_days 37 = .ok (.invokespecial 130, 3) := by decide +kernel
theorem dX8_days_40 : decode cX8_days 40 = .ok (.putfield 234, 3) := by decide +kernel
theorem dX8_days_43 : decode cX8_days 43 = .ok (.aload_n 0, 1) := by decide +kernel
theorem dX8_days_44 : decode cX8_days 44 = .ok (.getfield 234, 3) := by decide +kernel
theorem dX8_days_47 : decode cX8_days 47 = .ok (.aload_n 0, 1) := by decide +kernel
theorem dX8_days_48 : decode cX8_days 48 = .ok (.invokevirtual 131, 3) := by decide +kernel
theorem dX8_days_51 : decode cX8_days 51 = .ok (.aload_n 0, 1) := by decide +kernel
theorem dX8_days_52 : decode cX8_days 52 = .ok (.iload_n 2, 1) := by decide +kernel
theorem dX8_days_53 : decode cX8_days 53 = .ok (.putfield 228, 3) := by decide +kernel
theorem dX8_days_56 : decode cX8_days 56 = .ok (.iconst 0, 1) := by decide +kernel
theorem dX8_days_57 : decode cX8_days 57 = .ok (.istore_n 3, 1) := by decide +kernel
theorem dX8_days_58 : decode cX8_days 58 = .ok (.iconst 0, 1) := by decide +kernel
theorem dX8_days_59 : decode cX8_days 59 = .ok (.istore 4, 2) := by decide +kernel
theorem dX8_days_61 : decode cX8_days 61 = .ok (.iload 4, 2) := by decide +kernel
theorem dX8_days_63 : decode cX8_days 63 = .ok (.iload_n 1, 1) := by decide +kernel
theorem dX8_days_64 : decode cX8_days 64 = .ok (.if_icmp .ge 91, 3) := by decide +kernel
theorem dX8_days_67 : decode cX8_days 67 = .ok (.iconst 0, 1) := by decide +kernel
theorem dX8_days_68 : decode cX8_days 68 = .ok (.istore 5, 2) := by decide +kernel
theorem dX8_days_70 : decode cX8_days 70 = .ok (.iload 5, 2) := by decide +kernel
theorem dX8_days_72 : decode cX8_days 72 = .ok (.aload_n 0, 1) := by decide +kernel
theorem dX8_days_73 : decode cX8_days 73 = .ok (.getfield 65, 3) := by decide +kernel
theorem dX8_days_76 : decode cX8_days 76 = .ok (.if_icmp .ge 28, 3) := by decide +kernel
theorem dX8_days_79 : decode cX8_days 79 = .ok (.aload_n 0, 1) := by decide +kernel
theorem dX8_days_80 : decode cX8_days 80 = .ok (.getfield 234, 3) := by decide +kernel
theorem dX8_days_83 : decode cX8_days 83 = .ok (.getfield 28, 3) := by decide +kernel
theorem dX8_days_86 : decode cX8_days 86 = .ok (.iload 5, 2) := by decide +kernel
theorem dX8_days_88 : decode cX8_days 88 = .ok (.aaload, 1) := by decide +kernel
theorem dX8_days_89 : decode cX8_days 89 = .ok (.iconst 2, 1) := by decide +kernel
theorem dX8_days_90 : decode cX8_days 90 = .ok (.aload_n 0, 1) := by decide +kernel
theorem dX8_days_91 : decode cX8_days 91 = .ok (.sipush 721, 3) := by decide +kernel
theorem dX8_days_94 : decode cX8_days 94 = .ok (.invokevirtual 237, 3) := by decide +kernel
theorem dX8_days_97 : decode cX8_days 97 = .ok (.iastore, 1) := by decide +kernel
theorem dX8_days_98 : decode cX8_days 98 = .ok (.iinc 5 1, 3) := by decide +kernel
theorem dX8_days_101 : decode cX8_days 101 = .ok (.goto (-31), 3) := by decide +kernel
theorem dX8_days_104 : decode cX8_days 104 = .ok (.aload_n 0, 1) := by decide +kernel
theorem dX8_days_105 : decode cX8_days 105 = .ok (.getfield 234, 3) := by decide +kernel
theorem dX8_days_108 : decode cX8_days 108 = .ok (.invokevirtual 185, 3) := by decide +kernel
theorem dX8_days_111 : decode cX8_days 111 = .ok (.iconst 0, 1) := by decide +kernel
theorem dX8_days_112 : decode cX8_days 112 = .ok (.istore 5, 2) := by decide +kernel
theorem dX8_days_114 : decode cX8_days 114 = .ok (.iload 5, 2) := by decide +kernel
theorem dX8_days_116 : decode cX8_days 116 = .ok (.aload_n 0, 1) := by decide +kernel
theorem dX8_days_117 : decode cX8_days 117 = .ok (.getfield 68, 3) := by decide +kernel
theorem dX8_days_120 : decode cX8_days 120 = .ok (.if_icmp .ge 29, 3) := by decide +kernel
theorem dX8_days_123 : decode cX8_days 123 = .ok (.iload_n 3, 1) := by decide +kernel
theorem dX8_days_124 : decode cX8_days 124 = .ok (.aload_n 0, 1) := by decide +kernel
theorem dX8_days_125 : decode cX8_days 125 = .ok (.getfield 234, 3) := by decide +kernel
theorem dX8_days_128 : decode cX8_days 128 = .ok (.iload 5, 2) := by decide +kernel
theorem dX8_days_130 : decode cX8_days 130 = .ok (.invokevirtual 218, 3) := by decide +kernel
theorem dX8_days_133 : decode cX8_days 133 = .ok (.ifCond .eq 7, 3) := by decide +kernel
theorem dX8_days_136 : decode cX8_days 136 = .ok (.iconst 1, 1) := by decide +kernel
theorem dX8_days_137 : decode cX8_days 137 = .ok (.goto 4, 3) := by decide +kernel
theorem dX8_days_140 : decode cX8_days 140 = .ok (.iconst 0, 1) := by decide +kernel
theorem dX8_days_141 : decode cX8_days 141 = .ok (.iadd, 1) := by decide +kernel
theorem dX8_days_142 : decode cX8_days 142 = .ok (.istore_n 3, 1) := by decide +kernel
theorem dX8_days_143 : decode cX8_days 143 = .ok (.iinc 5 1, 3) := by decide +kernel
theorem dX8_days_146 : decode cX8_days 146 = .ok (.goto (-32), 3) := by decide +kernel
theorem dX8_days_149 : decode cX8_days 149 = .ok (.iinc 4 1, 3) := by decide +kernel
theorem dX8_days_152 : decode cX8_days 152 = .ok (.goto (-91), 3) := by decide +kernel
theorem dX8_days_155 : decode cX8_days 155 = .ok (.iload_n 3, 1) := by decide +kernel
theorem dX8_days_156 : decode cX8_days 156 = .ok (.ireturn, 1) := by decide +kernel
theorem dX8_row_0 : decode cX8_row 0 = .ok (.iload_n 1, 1) := by decide +kernel
theorem dX8_row_1 : decode cX8_row 1 = .ok (.ifCond .ge 10, 3) := by decide +kernel
theorem dX8_row_4 : decode cX8_row 4 = .ok (.aload_n 0, 1) := by decide +kernel
theorem dX8_row_5 : decode cX8_row 5 = .ok (.bipush (-4), 2) := by decide +kernel
theorem dX8_row_7 : decode cX8_row 7 = .ok (.invokevirtual 71, 3) := by decide +kernel
theorem dX8_row_10 : decode cX8_row 10 = .ok (.ireturn, 1) := by decide +kernel
theorem dX8_row_11 : decode cX8_row 11 = .ok (.iload_n 1, 1) := by decide +kernel
theorem dX8_row_12 : decode cX8_row 12 = .ok (.bipush 9, 2) := by decide +kernel
theorem dX8_row_14 : decode cX8_row 14 = .ok (.if_icmp .gt 12, 3) := by decide +kernel
theorem dX8_row_17 : decode cX8_row 17 = .ok (.aload_n 0, 1) := by decide +kernel
theorem dX8_row_18 : decode cX8_row 18 = .ok (.getfield 240, 3) := by decide +kernel
theorem dX8_row_21 : decode cX8_row 21 = .ok (.bipush 6, 2) := by decide +kernel
theorem dX8_row_23 : decode cX8_row 23 = .ok (.if_icmp .ne 10, 3) := by decide +kernel
theorem dX8_row_26 : decode cX8_row 26 = .ok (.aload_n 0, 1) := by decide +kernel
theorem dX8_row_27 : decode cX8_row 27 = .ok (.bipush (-6), 2) := by decide +kernel
theorem dX8_row_29 : decode cX8_row 29 = .ok (.invokevirtual 71, 3) := by decide +kernel
theorem dX8_row_32 : decode cX8_row 32 = .ok (.ireturn, 1) := by decide +kernel
theorem dX8_row_33 : decode cX8_row 33 = .ok (.aload_n 0, 1) := by decide +kernel
theorem dX8_row_34 : decode cX8_row 34 = .ok (.getfield 13, 3) := by decide +kernel
theorem dX8_row_37 : decode cX8_row 37 = .ok (.aload_n 0, 1) := by decide +kernel
theorem dX8_row_38 : decode cX8_row 38 = .ok (.dup, 1) := by decide +kernel
theorem dX8_row_39 : decode cX8_row 39 = .ok (.getfield 240, 3) := by decide +kernel
theorem dX8_row_42 : decode cX8_row 42 = .ok (.dup_x1, 1) := by decide +kernel
theorem dX8_row_43 : decode cX8_row 43 = .ok (.iconst 1, 1) := by decide +kernel
theorem dX8_row_44 : decode cX8_row 44 = .ok (.iadd, 1) := by decide +kernel
theorem dX8_row_45 : decode cX8_row 45 = .ok (.putfield 240, 3) := by decide +kernel
theorem dX8_row_48 : decode cX8_row 48 = .ok (.iload_n 1, 1) := by decide +kernel
theorem dX8_row_49 : decode cX8_row 49 = .ok (.iastore, 1) := by decide +kernel
theorem dX8_row_50 : decode cX8_row 50 = .ok (.aload_n 0, 1) := by decide +kernel
theorem dX8_row_51 : decode cX8_row 51 = .ok (.getfield 240, 3) := by decide +kernel
theorem dX8_row_54 : decode cX8_row 54 = .ok (.ireturn, 1) := by decide +kernel
theorem dX8_judged_0 : decode cX8_judged 0 = .ok (.aload_n 0, 1) := by decide +kernel
theorem dX8_judged_1 : decode cX8_judged 1 = .ok (.invokevirtual 139, 3) := by decide +kernel
theorem dX8_judged_4 : decode cX8_judged 4 = .ok (.iconst 0, 1) := by decide +kernel
theorem dX8_judged_5 : decode cX8_judged 5 = .ok (.istore_n 1, 1) := by decide +kernel
theorem dX8_judged_6 : decode cX8_judged 6 = .ok (.iconst 0, 1) := by decide +kernel
theorem dX8_judged_7 : decode cX8_judged 7 = .ok (.istore_n 2, 1) := by decide +kernel
theorem dX8_judged_8 : decode cX8_judged 8 = .ok (.iload_n 2, 1) := by decide +kernel
theorem dX8_judged_9 : decode cX8_judged 9 = .ok (.aload_n 0, 1) := by decide +kernel
theorem dX8_judged_10 : decode cX8_judged 10 = .ok (.getfield 68, 3) := by decide +kernel
theorem dX8_judged_13 : decode cX8_judged 13 = .ok (.if_icmp .ge 67, 3) := by decide +kernel
theorem dX8_judged_16 : decode cX8_judged 16 = .ok (.iload_n 2, 1) := by decide +kernel
theorem dX8_judged_17 : decode cX8_judged 17 = .ok (.aload_n 0, 1) := by decide +kernel
theorem dX8_judged_18 : decode cX8_judged 18 = .ok (.getfield 240, 3) := by decide +kernel
theorem dX8_judged_21 : decode cX8_judged 21 = .ok (.if_icmp .ne 5, 3) := by decide +kernel
theorem dX8_judged_24 : decode cX8_judged 24 = .ok (.iload_n 2, 1) := by decide +kernel
theorem dX8_judged_25 : decode cX8_judged 25 = .ok (.ireturn, 1) := by decide +kernel
theorem dX8_judged_26 : decode cX8_judged 26 = .ok (.aload_n 0, 1) := by decide +kernel
theorem dX8_judged_27 : decode cX8_judged 27 = .ok (.getfield 13, 3) := by decide +kernel
theorem dX8_judged_30 : decode cX8_judged 30 = .ok (.iload_n 2, 1) := by decide +kernel
theorem dX8_judged_31 : decode cX8_judged 31 = .ok (.iaload, 1) := by decide +kernel
theorem dX8_judged_32 : decode cX8_judged 32 = .ok (.istore_n 3, 1) := by decide +kernel
theorem dX8_judged_33 : decode cX8_judged 33 = .ok (.iload_n 3, 1) := by decide +kernel
theorem dX8_judged_34 : decode cX8_judged 34 = .ok (.bipush 9, 2) := by decide +kernel
theorem dX8_judged_36 : decode cX8_judged 36 = .ok (.if_icmp .eq 38, 3) := by decide +kernel
theorem dX8_judged_39 : decode cX8_judged 39 = .ok (.aload_n 0, 1) := by decide +kernel
theorem dX8_judged_40 : decode cX8_judged 40 = .ok (.iload_n 3, 1) := by decide +kernel
theorem dX8_judged_41 : decode cX8_judged 41 = .ok (.invokevirtual 108, 3) := by decide +kernel
theorem dX8_judged_44 : decode cX8_judged 44 = .ok (.ifCond .eq 22, 3) := by decide +kernel
theorem dX8_judged_47 : decode cX8_judged 47 = .ok (.iload_n 1, 1) := by decide +kernel
theorem dX8_judged_48 : decode cX8_judged 48 = .ok (.iload_n 3, 1) := by decide +kernel
theorem dX8_judged_49 : decode cX8_judged 49 = .ok (.ishr, 1) := by decide +kernel
theorem dX8_judged_50 : decode cX8_judged 50 = .ok (.iconst 1, 1) := by decide +kernel
theorem dX8_judged_51 : decode cX8_judged 51 = .ok (.iand, 1) := by decide +kernel
theorem dX8_judged_52 : decode cX8_judged 52 = .ok (.ifCond .ne 14, 3) := by decide +kernel
theorem dX8_judged_55 : decode cX8_judged 55 = .ok (.aload_n 0, 1) := by decide +kernel
theorem dX8_judged_56 : decode cX8_judged 56 = .ok (.iload_n 3, 1) := by decide +kernel
theorem dX8_judged_57 : decode cX8_judged 57 = .ok (.iload_n 2, 1) := by decide +kernel
theorem dX8_judged_58 : decode cX8_judged 58 = .ok (.invokevirtual 202, 3) := by decide +kernel
theorem dX8_judged_61 : decode cX8_judged 61 = .ok (.bipush (-9), 2) := by decide +kernel
theorem dX8_judged_63 : decode cX8_judged 63 = .ok (.if_icmp .ne 5, 3) := by decide +kernel
theorem dX8_judged_66 : decode cX8_judged 66 = .ok (.iload_n 2, 1) := by decide +kernel
theorem dX8_judged_67 : decode cX8_judged 67 = .ok (.ireturn, 1) := by decide +kernel
theorem dX8_judged_68 : decode cX8_judged 68 = .ok (.iload_n 1, 1) := by decide +kernel
theorem dX8_judged_69 : decode cX8_judged 69 = .ok (.iconst 1, 1) := by decide +kernel
theorem dX8_judged_70 : decode cX8_judged 70 = .ok (.iload_n 3, 1) := by decide +kernel
theorem dX8_judged_71 : decode cX8_judged 71 = .ok (.ishl, 1) := by decide +kernel
theorem dX8_judged_72 : decode cX8_judged 72 = .ok (.ior, 1) := by decide +kernel
theorem dX8_judged_73 : decode cX8_judged 73 = .ok (.istore_n 1, 1) := by decide +kernel
theorem dX8_judged_74 : decode cX8_judged 74 = .ok (.iinc 2 1, 3) := by decide +kernel
theorem dX8_judged_77 : decode cX8_judged 77 = .ok (.goto (-69), 3) := by decide +kernel
theorem dX8_judged_80 : decode cX8_judged 80 = .ok (.aload_n 0, 1) := by decide +kernel
theorem dX8_judged_81 : decode cX8_judged 81 = .ok (.getfield 240, 3) := by decide +kernel
theorem dX8_judged_84 : decode cX8_judged 84 = .ok (.aload_n 0, 1) := by decide +kernel
theorem dX8_judged_85 : decode cX8_judged 85 = .ok (.getfield 68, 3) := by decide +kernel
theorem dX8_judged_88 : decode cX8_judged 88 = .ok (.if_icmp .le 10, 3) := by decide +kernel
theorem dX8_judged_91 : decode cX8_judged 91 = .ok (.aload_n 0, 1) := by decide +kernel
theorem dX8_judged_92 : decode cX8_judged 92 = .ok (.getfield 68, 3) := by decide +kernel
theorem dX8_judged_95 : decode cX8_judged 95 = .ok (.goto 5, 3) := by decide +kernel
theorem dX8_judged_98 : decode cX8_judged 98 = .ok (.bipush (-9), 2) := by decide +kernel
theorem dX8_judged_100 : decode cX8_judged 100 = .ok (.ireturn, 1) := by decide +kernel
theorem dX8_judge_0 : decode cX8_judge 0 = .ok (.aload_n 0, 1) := by decide +kernel
theorem dX8_judge_1 : decode cX8_judge 1 = .ok (.invokevirtual 243, 3) := by decide +kernel
theorem dX8_judge_4 : decode cX8_judge 4 = .ok (.istore_n 1, 1) := by decide +kernel
theorem dX8_judge_5 : decode cX8_judge 5 = .ok (.aload_n 0, 1) := by decide +kernel
theorem dX8_judge_6 : decode cX8_judge 6 = .ok (.iconst 0, 1) := by decide +kernel
theorem dX8_judge_7 : decode cX8_judge 7 = .ok (.putfield 240, 3) := by decide +kernel
theorem dX8_judge_10 : decode cX8_judge 10 = .ok (.iload_n 1, 1) := by decide +kernel
theorem dX8_judge_11 : decode cX8_judge 11 = .ok (.ireturn, 1) := by decide +kernel
theorem dX8_copyAll_0 : decode cX8_copyAll 0 = .ok (.iconst 0, 1) := by decide +kernel
theorem dX8_copyAll_1 : decode cX8_copyAll 1 = .ok (.istore_n 2, 1) := by decide +kernel
theorem dX8_copyAll_2 : decode cX8_copyAll 2 = .ok (.iload_n 2, 1) := by decide +kernel
theorem dX8_copyAll_3 : decode cX8_copyAll 3 = .ok (.aload_n 0, 1) := by decide +kernel
theorem dX8_copyAll_4 : decode cX8_copyAll 4 = .ok (.arraylength, 1) := by decide +kernel
theorem dX8_copyAll_5 : decode cX8_copyAll 5 = .ok (.if_icmp .ge 35, 3) := by decide +kernel
theorem dX8_copyAll_8 : decode cX8_copyAll 8 = .ok (.iconst 0, 1) := by decide +kernel
theorem dX8_copyAll_9 : decode cX8_copyAll 9 = .ok (.istore_n 3, 1) := by decide +kernel
theorem dX8_copyAll_10 : decode cX8_copyAll 10 = .ok (.iload_n 3, 1) := by decide +kernel
theorem dX8_copyAll_11 : decode cX8_copyAll 11 = .ok (.aload_n 0, 1) := by decide +kernel
theorem dX8_copyAll_12 : decode cX8_copyAll 12 = .ok (.iload_n 2, 1) := by decide +kernel
theorem dX8_copyAll_13 : decode cX8_copyAll 13 = .ok (.aaload, 1) := by decide +kernel
theorem dX8_copyAll_14 : decode cX8_copyAll 14 = .ok (.arraylength, 1) := by decide +kernel
theorem dX8_copyAll_15 : decode cX8_copyAll 15 = .ok (.if_icmp .ge 19, 3) := by decide +kernel
theorem dX8_copyAll_18 : decode cX8_copyAll 18 = .ok (.aload_n 1, 1) := by decide +kernel
theorem dX8_copyAll_19 : decode cX8_copyAll 19 = .ok (.iload_n 2, 1) := by decide +kernel
theorem dX8_copyAll_20 : decode cX8_copyAll 20 = .ok (.aaload, 1) := by decide +kernel
theorem dX8_copyAll_21 : decode cX8_copyAll 21 = .ok (.iload_n 3, 1) := by decide +kernel
theorem dX8_copyAll_22 : decode cX8_copyAll 22 = .ok (.aload_n 0, 1) := by decide +kernel
theorem dX8_copyAll_23 : decode cX8_copyAll 23 = .ok (.iload_n 2, 1) := by decide +kernel
theorem dX8_copyAll_24 : decode cX8_copyAll 24 = .ok (.aaload, 1) := by decide +kernel
theorem dX8_copyAll_25 : decode cX8_copyAll 25 = .ok (.iload_n 3, 1) := by decide +kernel
theorem dX8_copyAll_26 : decode cX8_copyAll 26 = .ok (.iaload, 1) := by decide +kernel
theorem dX8_copyAll_27 : decode cX8_copyAll 27 = .ok (.iastore, 1) := by decide +kernel
theorem dX8_copyAll_28 : decode cX8_copyAll 28 = .ok (.iinc 3 1, 3) := by decide +kernel
theorem dX8_copyAll_31 : decode cX8_copyAll 31 = .ok (.goto (-21), 3) := by decide +kernel
theorem dX8_copyAll_34 : decode cX8_copyAll 34 = .ok (.iinc 2 1, 3) := by decide +kernel
theorem dX8_copyAll_37 : decode cX8_copyAll 37 = .ok (.goto (-35), 3) := by decide +kernel
theorem dX8_copyAll_40 : decode cX8_copyAll 40 = .ok (.return_, 1) := by decide +kernel
theorem dX8_takeFrom_0 : decode cX8_takeFrom 0 = .ok (.aload_n 0, 1) := by decide +kernel
theorem dX8_takeFrom_1 : decode cX8_takeFrom 1 = .ok (.aload_n 1, 1) := by decide +kernel
theorem dX8_takeFrom_2 : decode cX8_takeFrom 2 = .ok (.getfield 19, 3) := by decide +kernel
theorem dX8_takeFrom_5 : decode cX8_takeFrom 5 = .ok (.putfield 19, 3) := by decide +kernel
theorem dX8_takeFrom_8 : decode cX8_takeFrom 8 = .ok (.aload_n 1, 1) := by decide +kernel
theorem dX8_takeFrom_9 : decode cX8_takeFrom 9 = .ok (.getfield 25, 3) := by decide +kernel
theorem dX8_takeFrom_12 : decode cX8_takeFrom 12 = .ok (.aload_n 0, 1) := by decide +kernel
theorem dX8_takeFrom_13 : decode cX8_takeFrom 13 = .ok (.getfield 25, 3) := by decide +kernel
theorem dX8_takeFrom_16 : decode cX8_takeFrom 16 = .ok (.invokestatic 246, 3) := by decide +kernel
theorem dX8_takeFrom_19 : decode cX8_takeFrom 19 = .ok (.aload_n 0, 1) := by decide +kernel
theorem dX8_takeFrom_20 : decode cX8_takeFrom 20 = .ok (.aload_n 1, 1) := by decide +kernel
theorem dX8_takeFrom_21 : decode cX8_takeFrom 21 = .ok (.getfield 65, 3) := by decide +kernel
theorem dX8_takeFrom_24 : decode cX8_takeFrom 24 = .ok (.putfield 65, 3) := by decide +kernel
theorem dX8_takeFrom_27 : decode cX8_takeFrom 27 = .ok (.aload_n 1, 1) := by decide +kernel
theorem dX8_takeFrom_28 : decode cX8_takeFrom 28 = .ok (.getfield 28, 3) := by decide +kernel
theorem dX8_takeFrom_31 : decode cX8_takeFrom 31 = .ok (.aload_n 0, 1) := by decide +kernel
theorem dX8_takeFrom_32 : decode cX8_takeFrom 32 = .ok (.getfield 28, 3) := by decide +kernel
theorem dX8_takeFrom_35 : decode cX8_takeFrom 35 = .ok (.invokestatic 246, 3) := by decide +kernel
theorem dX8_takeFrom_38 : decode cX8_takeFrom 38 = .ok (.aload_n 0, 1) := by decide +kernel
theorem dX8_takeFrom_39 : decode cX8_takeFrom 39 = .ok (.aload_n 1, 1) := by decide +kernel
theorem dX8_takeFrom_40 : decode cX8_takeFrom 40 = .ok (.getfield 68, 3) := by decide +kernel
theorem dX8_takeFrom_43 : decode cX8_takeFrom 43 = .ok (.putfield 68, 3) := by decide +kernel
theorem dX8_takeFrom_46 : decode cX8_takeFrom 46 = .ok (.aload_n 1, 1) := by decide +kernel
theorem dX8_takeFrom_47 : decode cX8_takeFrom 47 = .ok (.getfield 31, 3) := by decide +kernel
theorem dX8_takeFrom_50 : decode cX8_takeFrom 50 = .ok (.aload_n 0, 1) := by decide +kernel
theorem dX8_takeFrom_51 : decode cX8_takeFrom 51 = .ok (.getfield 31, 3) := by decide +kernel
theorem dX8_takeFrom_54 : decode cX8_takeFrom 54 = .ok (.invokestatic 246, 3) := by decide +kernel
theorem dX8_takeFrom_57 : decode cX8_takeFrom 57 = .ok (.aload_n 0, 1) := by decide +kernel
theorem dX8_takeFrom_58 : decode cX8_takeFrom 58 = .ok (.aload_n 1, 1) := by decide +kernel
theorem dX8_takeFrom_59 : decode cX8_takeFrom 59 = .ok (.getfield 148, 3) := by decide +kernel
theorem dX8_takeFrom_62 : decode cX8_takeFrom 62 = .ok (.putfield 148, 3) := by decide +kernel
theorem dX8_takeFrom_65 : decode cX8_takeFrom 65 = .ok (.return_, 1) := by decide +kernel
theorem dX8_image_0 : decode cX8_image 0 = .ok (.aload_n 0, 1) := by decide +kernel
theorem dX8_image_1 : decode cX8_image 1 = .ok (.getfield 250, 3) := by decide +kernel
theorem dX8_image_4 : decode cX8_image 4 = .ok (.ifnonnull 14, 3) := by decide +kernel
theorem dX8_image_7 : decode cX8_image 7 = .ok (.aload_n 0, 1) := by decide +kernel
theorem dX8_image_8 : decode cX8_image 8 = .ok (.new 7, 3) := by decide +kernel
theorem dX8_image_11 : decode cX8_image 11 = .ok (.dup, 1) := by decide +kernel
theorem dX8_image_12 : decode cX8_image 12 = .ok (.invokespecial 130, 3) := by decide +kernel
theorem dX8_image_15 : decode cX8_image 15 = .ok (.putfield 250, 3) := by decide +kernel
theorem dX8_image_18 : decode cX8_image 18 = .ok (.aload_n 0, 1) := by decide +kernel
theorem dX8_image_19 : decode cX8_image 19 = .ok (.getfield 250, 3) := by decide +kernel
theorem dX8_image_22 : decode cX8_image 22 = .ok (.aload_n 0, 1) := by decide +kernel
theorem dX8_image_23 : decode cX8_image 23 = .ok (.invokevirtual 131, 3) := by decide +kernel
theorem dX8_image_26 : decode cX8_image 26 = .ok (.aload_n 0, 1) := by decide +kernel
theorem dX8_image_27 : decode cX8_image 27 = .ok (.getfield 68, 3) := by decide +kernel
theorem dX8_image_30 : decode cX8_image 30 = .ok (.ireturn, 1) := by decide +kernel
theorem dX8_on_0 : decode cX8_on 0 = .ok (.aload_n 0, 1) := by decide +kernel
theorem dX8_on_1 : decode cX8_on 1 = .ok (.getfield 250, 3) := by decide +kernel
theorem dX8_on_4 : decode cX8_on 4 = .ok (.ifnonnull 10, 3) := by decide +kernel
theorem dX8_on_7 : decode cX8_on 7 = .ok (.aload_n 0, 1) := by decide +kernel
theorem dX8_on_8 : decode cX8_on 8 = .ok (.bipush (-3), 2) := by decide +kernel
theorem dX8_on_10 : decode cX8_on 10 = .ok (.invokevirtual 71, 3) := by decide +kernel
theorem dX8_on_13 : decode cX8_on 13 = .ok (.ireturn, 1) := by decide +kernel
theorem dX8_on_14 : decode cX8_on 14 = .ok (.aload_n 0, 1) := by decide +kernel
theorem dX8_on_15 : decode cX8_on 15 = .ok (.aload_n 0, 1) := by decide +kernel
theorem dX8_on_16 : decode cX8_on 16 = .ok (.getfield 250, 3) := by decide +kernel
theorem dX8_on_19 : decode cX8_on 19 = .ok (.invokevirtual 131, 3) := by decide +kernel
theorem dX8_on_22 : decode cX8_on 22 = .ok (.aload_n 0, 1) := by decide +kernel
theorem dX8_on_23 : decode cX8_on 23 = .ok (.getfield 68, 3) := by decide +kernel
theorem dX8_on_26 : decode cX8_on 26 = .ok (.ireturn, 1) := by decide +kernel
theorem dX8_count_0 : decode cX8_count 0 = .ok (.iconst 0, 1) := by decide +kernel
theorem dX8_count_1 : decode cX8_count 1 = .ok (.istore_n 2, 1) := by decide +kernel
theorem dX8_count_2 : decode cX8_count 2 = .ok (.iload_n 1, 1) := by decide +kernel
theorem dX8_count_3 : decode cX8_count 3 = .ok (.tableswitch 102 0 5 #[37, 42, 47, 52, 92, 97], 37) := by decide +kernel
theorem dX8_count_40 : decode cX8_count 40 = .ok (.aload_n 0, 1) := by decide +kernel
theorem dX8_count_41 : decode cX8_count 41 = .ok (.getfield 19, 3) := by decide +kernel
theorem dX8_count_44 : decode cX8_count 44 = .ok (.ireturn, 1) := by decide +kernel
theorem dX8_count_45 : decode cX8_count 45 = .ok (.aload_n 0, 1) := by decide +kernel
theorem dX8_count_46 : decode cX8_count 46 = .ok (.getfield 65, 3) := by decide +kernel
theorem dX8_count_49 : decode cX8_count 49 = .ok (.ireturn, 1) := by decide +kernel
theorem dX8_count_50 : decode cX8_count 50 = .ok (.aload_n 0, 1) := by decide +kernel
theorem dX8_count_51 : decode cX8_count 51 = .ok (.getfield 68, 3) := by decide +kernel
theorem dX8_count_54 : decode cX8_count 54 = .ok (.ireturn, 1) := by decide +kernel
theorem dX8_count_55 : decode cX8_count 55 = .ok (.iconst 0, 1) := by decide +kernel
theorem dX8_count_56 : decode cX8_count 56 = .ok (.istore_n 3, 1) := by decide +kernel
theorem dX8_count_57 : decode cX8_count 57 = .ok (.iload_n 3, 1) := by decide +kernel
theorem dX8_count_58 : decode cX8_count 58 = .ok (.aload_n 0, 1) := by decide +kernel
theorem dX8_count_59 : decode cX8_count 59 = .ok (.getfield 68, 3) := by decide +kernel
theorem dX8_count_62 : decode cX8_count 62 = .ok (.if_icmp .ge 31, 3) := by decide +kernel
theorem dX8_count_65 : decode cX8_count 65 = .ok (.iload_n 2, 1) := by decide +kernel
theorem dX8_count_66 : decode cX8_count 66 = .ok (.aload_n 0, 1) := by decide +kernel
theorem dX8_count_67 : decode cX8_count 67 = .ok (.getfield 31, 3) := by decide +kernel
theorem dX8_count_70 : decode cX8_count 70 = .ok (.iload_n 3, 1) := by decide +kernel
theorem dX8_count_71 : decode cX8_count 71 = .ok (.aaload, 1) := by decide +kernel
theorem dX8_count_72 : decode cX8_count 72 = .ok (.bipush 7, 2) := by decide +kernel
theorem dX8_count_74 : decode cX8_count 74 = .ok (.iaload, 1) := by decide +kernel
theorem dX8_count_75 : decode cX8_count 75 = .ok (.bipush 10, 2) := by decide +kernel
theorem dX8_count_77 : decode cX8_count 77 = .ok (.if_icmp .lt 7, 3) := by decide +kernel
theorem dX8_count_80 : decode cX8_count 80 = .ok (.iconst 1, 1) := by decide +kernel
theorem dX8_count_81 : decode cX8_count 81 = .ok (.goto 4, 3) := by decide +kernel
theorem dX8_count_84 : decode cX8_count 84 = .ok (.iconst 0, 1) := by decide +kernel
theorem dX8_count_85 : decode cX8_count 85 = .ok (.iadd, 1) := by decide +kernel
theorem dX8_count_86 : decode cX8_count 86 = .ok (.istore_n 2, 1) := by decide +kernel
theorem dX8_count_87 : decode cX8_count 87 = .ok (.iinc 3 1, 3) := by decide +kernel
theorem dX8_count_90 : decode cX8_count 90 = .ok (.goto (-33), 3) := by decide +kernel
theorem dX8_count_93 : decode cX8_count 93 = .ok (.iload_n 2, 1) := by decide +kernel
theorem dX8_count_94 : decode cX8_count 94 = .ok (.ireturn, 1) := by decide +kernel
theorem dX8_count_95 : decode cX8_count 95 = .ok (.aload_n 0, 1) := by decide +kernel
theorem dX8_count_96 : decode cX8_count 96 = .ok (.getfield 240, 3) := by decide +kernel
theorem dX8_count_99 : decode cX8_count 99 = .ok (.ireturn, 1) := by decide +kernel
theorem dX8_count_100 : decode cX8_count 100 = .ok (.aload_n 0, 1) := by decide +kernel
theorem dX8_count_101 : decode cX8_count 101 = .ok (.getfield 75, 3) := by decide +kernel
theorem dX8_count_104 : decode cX8_count 104 = .ok (.ireturn, 1) := by decide +kernel
theorem dX8_count_105 : decode cX8_count 105 = .ok (.iload_n 1, 1) := by decide +kernel
theorem dX8_count_106 : decode cX8_count 106 = .ok (.bipush 11, 2) := by decide +kernel
theorem dX8_count_108 : decode cX8_count 108 = .ok (.bipush 16, 2) := by decide +kernel
theorem dX8_count_110 : decode cX8_count 110 = .ok (.invokestatic 61, 3) := by decide +kernel
theorem dX8_count_113 : decode cX8_count 113 = .ok (.ifCond .eq 15, 3) := by decide +kernel
theorem dX8_count_116 : decode cX8_count 116 = .ok (.aload_n 0, 1) := by decide +kernel
theorem dX8_count_117 : decode cX8_count 117 = .ok (.getfield 16, 3) := by decide +kernel
theorem dX8_count_120 : decode cX8_count 120 = .ok (.iload_n 1, 1) := by decide +kernel
theorem dX8_count_121 : decode cX8_count 121 = .ok (.bipush 10, 2) := by decide +kernel
theorem dX8_count_123 : decode cX8_count 123 = .ok (.isub, 1) := by decide +kernel
theorem dX8_count_124 : decode cX8_count 124 = .ok (.iaload, 1) := by decide +kernel
theorem dX8_count_125 : decode cX8_count 125 = .ok (.goto 5, 3) := by decide +kernel
theorem dX8_count_128 : decode cX8_count 128 = .ok (.bipush (-9), 2) := by decide +kernel
theorem dX8_count_130 : decode cX8_count 130 = .ok (.ireturn, 1) := by decide +kernel
