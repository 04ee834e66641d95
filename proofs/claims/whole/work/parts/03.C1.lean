theorem dX5_hearThing_104 : decode cX5_hearThing 104 = .ok (.aload_n 1, 1) := by decide +kernel
theorem dX5_hearThing_105 : decode cX5_hearThing 105 = .ok (.iconst 5, 1) := by decide +kernel
theorem dX5_hearThing_106 : decode cX5_hearThing 106 = .ok (.iaload, 1) := by decide +kernel
theorem dX5_hearThing_107 : decode cX5_hearThing 107 = .ok (.putfield 127, 3) := by decide +kernel
theorem dX5_hearThing_110 : decode cX5_hearThing 110 = .ok (.aload_n 2, 1) := by decide +kernel
theorem dX5_hearThing_111 : decode cX5_hearThing 111 = .ok (.aload_n 1, 1) := by decide +kernel
theorem dX5_hearThing_112 : decode cX5_hearThing 112 = .ok (.bipush 6, 2) := by decide +kernel
theorem dX5_hearThing_114 : decode cX5_hearThing 114 = .ok (.iaload, 1) := by decide +kernel
theorem dX5_hearThing_115 : decode cX5_hearThing 115 = .ok (.putfield 130, 3) := by decide +kernel
theorem dX5_hearThing_118 : decode cX5_hearThing 118 = .ok (.aload_n 2, 1) := by decide +kernel
theorem dX5_hearThing_119 : decode cX5_hearThing 119 = .ok (.aload_n 2, 1) := by decide +kernel
theorem dX5_hearThing_120 : decode cX5_hearThing 120 = .ok (.getfield 95, 3) := by decide +kernel
theorem dX5_hearThing_123 : decode cX5_hearThing 123 = .ok (.putfield 97, 3) := by decide +kernel
theorem dX5_hearThing_126 : decode cX5_hearThing 126 = .ok (.aload_n 2, 1) := by decide +kernel
theorem dX5_hearThing_127 : decode cX5_hearThing 127 = .ok (.iconst 0, 1) := by decide +kernel
theorem dX5_hearThing_128 : decode cX5_hearThing 128 = .ok (.putfield 133, 3) := by decide +kernel
theorem dX5_hearThing_131 : decode cX5_hearThing 131 = .ok (.aload_n 2, 1) := by decide +kernel
theorem dX5_hearThing_132 : decode cX5_hearThing 132 = .ok (.bipush (-9), 2) := by decide +kernel
theorem dX5_hearThing_134 : decode cX5_hearThing 134 = .ok (.putfield 136, 3) := by decide +kernel
theorem dX5_hearThing_137 : decode cX5_hearThing 137 = .ok (.aload_n 0, 1) := by decide +kernel
theorem dX5_hearThing_138 : decode cX5_hearThing 138 = .ok (.dup, 1) := by decide +kernel
theorem dX5_hearThing_139 : decode cX5_hearThing 139 = .ok (.getfield 55, 3) := by decide +kernel
theorem dX5_hearThing_142 : decode cX5_hearThing 142 = .ok (.iconst 1, 1) := by decide +kernel
theorem dX5_hearThing_143 : decode cX5_hearThing 143 = .ok (.iadd, 1) := by decide +kernel
theorem dX5_hearThing_144 : decode cX5_hearThing 144 = .ok (.putfield 55, 3) := by decide +kernel
theorem dX5_hearThing_147 : decode cX5_hearThing 147 = .ok (.iconst 1, 1) := by decide +kernel
theorem dX5_hearThing_148 : decode cX5_hearThing 148 = .ok (.ireturn, 1) := by decide +kernel
theorem dX5_measure_0 : decode cX5_measure 0 = .ok (.iconst 0, 1) := by decide +kernel
theorem dX5_measure_1 : decode cX5_measure 1 = .ok (.istore_n 1, 1) := by decide +kernel
theorem dX5_measure_2 : decode cX5_measure 2 = .ok (.iload_n 1, 1) := by decide +kernel
theorem dX5_measure_3 : decode cX5_measure 3 = .ok (.aload_n 0, 1) := by decide +kernel
theorem dX5_measure_4 : decode cX5_measure 4 = .ok (.getfield 27, 3) := by decide +kernel
theorem dX5_measure_7 : decode cX5_measure 7 = .ok (.arraylength, 1) := by decide +kernel
theorem dX5_measure_8 : decode cX5_measure 8 = .ok (.if_icmp .ge 52, 3) := by decide +kernel
theorem dX5_measure_11 : decode cX5_measure 11 = .ok (.iload_n 1, 1) := by decide +kernel
theorem dX5_measure_12 : decode cX5_measure 12 = .ok (.bipush 7, 2) := by decide +kernel
theorem dX5_measure_14 : decode cX5_measure 14 = .ok (.idiv, 1) := by decide +kernel
theorem dX5_measure_15 : decode cX5_measure 15 = .ok (.iload_n 1, 1) := by decide +kernel
theorem dX5_measure_16 : decode cX5_measure 16 = .ok (.bipush 7, 2) := by decide +kernel
theorem dX5_measure_18 : decode cX5_measure 18 = .ok (.irem, 1) := by decide +kernel
theorem dX5_measure_19 : decode cX5_measure 19 = .ok (.if_icmp .ne 7, 3) := by decide +kernel
theorem dX5_measure_22 : decode cX5_measure 22 = .ok (.iconst 0, 1) := by decide +kernel
theorem dX5_measure_23 : decode cX5_measure 23 = .ok (.goto 5, 3) := by decide +kernel
theorem dX5_measure_26 : decode cX5_measure 26 = .ok (.ldc 139, 2) := by decide +kernel
theorem dX5_measure_28 : decode cX5_measure 28 = .ok (.istore_n 2, 1) := by decide +kernel
theorem dX5_measure_29 : decode cX5_measure 29 = .ok (.aload_n 0, 1) := by decide +kernel
theorem dX5_measure_30 : decode cX5_measure 30 = .ok (.getfield 27, 3) := by decide +kernel
theorem dX5_measure_33 : decode cX5_measure 33 = .ok (.iload_n 1, 1) := by decide +kernel
theorem dX5_measure_34 : decode cX5_measure 34 = .ok (.aload_n 0, 1) := by decide +kernel
theorem dX5_measure_35 : decode cX5_measure 35 = .ok (.getfield 23, 3) := by decide +kernel
theorem dX5_measure_38 : decode cX5_measure 38 = .ok (.iload_n 1, 1) := by decide +kernel
theorem dX5_measure_39 : decode cX5_measure 39 = .ok (.iaload, 1) := by decide +kernel
theorem dX5_measure_40 : decode cX5_measure 40 = .ok (.ifCond .le 12, 3) := by decide +kernel
theorem dX5_measure_43 : decode cX5_measure 43 = .ok (.aload_n 0, 1) := by decide +kernel
theorem dX5_measure_44 : decode cX5_measure 44 = .ok (.getfield 23, 3) := by decide +kernel
theorem dX5_measure_47 : decode cX5_measure 47 = .ok (.iload_n 1, 1) := by decide +kernel
theorem dX5_measure_48 : decode cX5_measure 48 = .ok (.iaload, 1) := by decide +kernel
theorem dX5_measure_49 : decode cX5_measure 49 = .ok (.goto 4, 3) := by decide +kernel
theorem dX5_measure_52 : decode cX5_measure 52 = .ok (.iload_n 2, 1) := by decide +kernel
theorem dX5_measure_53 : decode cX5_measure 53 = .ok (.iastore, 1) := by decide +kernel
theorem dX5_measure_54 : decode cX5_measure 54 = .ok (.iinc 1 1, 3) := by decide +kernel
theorem dX5_measure_57 : decode cX5_measure 57 = .ok (.goto (-55), 3) := by decide +kernel
theorem dX5_measure_60 : decode cX5_measure 60 = .ok (.iconst 0, 1) := by decide +kernel
theorem dX5_measure_61 : decode cX5_measure 61 = .ok (.istore_n 1, 1) := by decide +kernel
theorem dX5_measure_62 : decode cX5_measure 62 = .ok (.iload_n 1, 1) := by decide +kernel
theorem dX5_measure_63 : decode cX5_measure 63 = .ok (.bipush 7, 2) := by decide +kernel
theorem dX5_measure_65 : decode cX5_measure 65 = .ok (.if_icmp .ge 76, 3) := by decide +kernel
theorem dX5_measure_68 : decode cX5_measure 68 = .ok (.iconst 0, 1) := by decide +kernel
theorem dX5_measure_69 : decode cX5_measure 69 = .ok (.istore_n 2, 1) := by decide +kernel
theorem dX5_measure_70 : decode cX5_measure 70 = .ok (.iload_n 2, 1) := by decide +kernel
theorem dX5_measure_71 : decode cX5_measure 71 = .ok (.aload_n 0, 1) := by decide +kernel
theorem dX5_measure_72 : decode cX5_measure 72 = .ok (.getfield 27, 3) := by decide +kernel
theorem dX5_measure_75 : decode cX5_measure 75 = .ok (.arraylength, 1) := by decide +kernel
theorem dX5_measure_76 : decode cX5_measure 76 = .ok (.if_icmp .ge 59, 3) := by decide +kernel
theorem dX5_measure_79 : decode cX5_measure 79 = .ok (.aload_n 0, 1) := by decide +kernel
theorem dX5_measure_80 : decode cX5_measure 80 = .ok (.getfield 27, 3) := by decide +kernel
theorem dX5_measure_83 : decode cX5_measure 83 = .ok (.iload_n 2, 1) := by decide +kernel
theorem dX5_measure_84 : decode cX5_measure 84 = .ok (.bipush 7, 2) := by decide +kernel
theorem dX5_measure_86 : decode cX5_measure 86 = .ok (.idiv, 1) := by decide +kernel
theorem dX5_measure_87 : decode cX5_measure 87 = .ok (.bipush 7, 2) := by decide +kernel
theorem dX5_measure_89 : decode cX5_measure 89 = .ok (.imul, 1) := by decide +kernel
theorem dX5_measure_90 : decode cX5_measure 90 = .ok (.iload_n 1, 1) := by decide +kernel
theorem dX5_measure_91 : decode cX5_measure 91 = .ok (.iadd, 1) := by decide +kernel
theorem dX5_measure_92 : decode cX5_measure 92 = .ok (.iaload, 1) := by decide +kernel
theorem dX5_measure_93 : decode cX5_measure 93 = .ok (.istore_n 3, 1) := by decide +kernel
theorem dX5_measure_94 : decode cX5_measure 94 = .ok (.aload_n 0, 1) := by decide +kernel
theorem dX5_measure_95 : decode cX5_measure 95 = .ok (.getfield 27, 3) := by decide +kernel
theorem dX5_measure_98 : decode cX5_measure 98 = .ok (.iload_n 1, 1) := by decide +kernel
theorem dX5_measure_99 : decode cX5_measure 99 = .ok (.bipush 7, 2) := by decide +kernel
theorem dX5_measure_101 : decode cX5_measure 101 = .ok (.imul, 1) := by decide +kernel
theorem dX5_measure_102 : decode cX5_measure 102 = .ok (.iload_n 2, 1) := by decide +kernel
theorem dX5_measure_103 : decode cX5_measure 103 = .ok (.bipush 7, 2) := by decide +kernel
theorem dX5_measure_105 : decode cX5_measure 105 = .ok (.irem, 1) := by decide +kernel
theorem dX5_measure_106 : decode cX5_measure 106 = .ok (.iadd, 1) := by decide +kernel
theorem dX5_measure_107 : decode cX5_measure 107 = .ok (.iaload, 1) := by decide +kernel
theorem dX5_measure_108 : decode cX5_measure 108 = .ok (.istore 4, 2) := by decide +kernel
theorem dX5_measure_110 : decode cX5_measure 110 = .ok (.aload_n 0, 1) := by decide +kernel
theorem dX5_measure_111 : decode cX5_measure 111 = .ok (.getfield 27, 3) := by decide +kernel
theorem dX5_measure_114 : decode cX5_measure 114 = .ok (.iload_n 2, 1) := by decide +kernel
theorem dX5_measure_115 : decode cX5_measure 115 = .ok (.aload_n 0, 1) := by decide +kernel
theorem dX5_measure_116 : decode cX5_measure 116 = .ok (.getfield 27, 3) := by decide +kernel
theorem dX5_measure_119 : decode cX5_measure 119 = .ok (.iload_n 2, 1) := by decide +kernel
theorem dX5_measure_120 : decode cX5_measure 120 = .ok (.iaload, 1) := by decide +kernel
theorem dX5_measure_121 : decode cX5_measure 121 = .ok (.iload_n 3, 1) := by decide +kernel
theorem dX5_measure_122 : decode cX5_measure 122 = .ok (.iload 4, 2) := by decide +kernel
theorem dX5_measure_124 : decode cX5_measure 124 = .ok (.iadd, 1) := by decide +kernel
theorem dX5_measure_125 : decode cX5_measure 125 = .ok (.invokestatic 140, 3) := by decide +kernel
theorem dX5_measure_128 : decode cX5_measure 128 = .ok (.iastore, 1) := by decide +kernel
theorem dX5_measure_129 : decode cX5_measure 129 = .ok (.iinc 2 1, 3) := by decide +kernel
theorem dX5_measure_132 : decode cX5_measure 132 = .ok (.goto (-62), 3) := by decide +kernel
theorem dX5_measure_135 : decode cX5_measure 135 = .ok (.iinc 1 1, 3) := by decide +kernel
theorem dX5_measure_138 : decode cX5_measure 138 = .ok (.goto (-76), 3) := by decide +kernel
theorem dX5_measure_141 : decode cX5_measure 141 = .ok (.return_, 1) := by decide +kernel
theorem dX5_leastBetween_0 : decode cX5_leastBetween 0 = .ok (.aload_n 0, 1) := by decide +kernel
theorem dX5_leastBetween_1 : decode cX5_leastBetween 1 = .ok (.iload_n 1, 1) := by decide +kernel
theorem dX5_leastBetween_2 : decode cX5_leastBetween 2 = .ok (.invokevirtual 100, 3) := by decide +kernel
theorem dX5_leastBetween_5 : decode cX5_leastBetween 5 = .ok (.ifCond .eq 25, 3) := by decide +kernel
theorem dX5_leastBetween_8 : decode cX5_leastBetween 8 = .ok (.aload_n 0, 1) := by decide +kernel
theorem dX5_leastBetween_9 : decode cX5_leastBetween 9 = .ok (.iload_n 2, 1) := by decide +kernel
theorem dX5_leastBetween_10 : decode cX5_leastBetween 10 = .ok (.invokevirtual 100, 3) := by decide +kernel
theorem dX5_leastBetween_13 : decode cX5_leastBetween 13 = .ok (.ifCond .eq 17, 3) := by decide +kernel
theorem dX5_leastBetween_16 : decode cX5_leastBetween 16 = .ok (.aload_n 0, 1) := by decide +kernel
theorem dX5_leastBetween_17 : decode cX5_leastBetween 17 = .ok (.getfield 27, 3) := by decide +kernel
theorem dX5_leastBetween_20 : decode cX5_leastBetween 20 = .ok (.iload_n 1, 1) := by decide +kernel
theorem dX5_leastBetween_21 : decode cX5_leastBetween 21 = .ok (.bipush 7, 2) := by decide +kernel
theorem dX5_leastBetween_23 : decode cX5_leastBetween 23 = .ok (.imul, 1) := by decide +kernel
theorem dX5_leastBetween_24 : decode cX5_leastBetween 24 = .ok (.iload_n 2, 1) := by decide +kernel
theorem dX5_leastBetween_25 : decode cX5_leastBetween 25 = .ok (.iadd, 1) := by decide +kernel
theorem dX5_leastBetween_26 : decode cX5_leastBetween 26 = .ok (.iaload, 1) := by decide +kernel
theorem dX5_leastBetween_27 : decode cX5_leastBetween 27 = .ok (.goto 5, 3) := by decide +kernel
theorem dX5_leastBetween_30 : decode cX5_leastBetween 30 = .ok (.ldc 139, 2) := by decide +kernel
theorem dX5_leastBetween_32 : decode cX5_leastBetween 32 = .ok (.ireturn, 1) := by decide +kernel
theorem dX5_wayBetween_0 : decode cX5_wayBetween 0 = .ok (.aload_n 0, 1) := by decide +kernel
theorem dX5_wayBetween_1 : decode cX5_wayBetween 1 = .ok (.iload_n 1, 1) := by decide +kernel
theorem dX5_wayBetween_2 : decode cX5_wayBetween 2 = .ok (.invokevirtual 100, 3) := by decide +kernel
theorem dX5_wayBetween_5 : decode cX5_wayBetween 5 = .ok (.ifCond .eq 25, 3) := by decide +kernel
theorem dX5_wayBetween_8 : decode cX5_wayBetween 8 = .ok (.aload_n 0, 1) := by decide +kernel
theorem dX5_wayBetween_9 : decode cX5_wayBetween 9 = .ok (.iload_n 2, 1) := by decide +kernel
theorem dX5_wayBetween_10 : decode cX5_wayBetween 10 = .ok (.invokevirtual 100, 3) := by decide +kernel
theorem dX5_wayBetween_13 : decode cX5_wayBetween 13 = .ok (.ifCond .eq 17, 3) := by decide +kernel
theorem dX5_wayBetween_16 : decode cX5_wayBetween 16 = .ok (.aload_n 0, 1) := by decide +kernel
theorem dX5_wayBetween_17 : decode cX5_wayBetween 17 = .ok (.getfield 23, 3) := by decide +kernel
theorem dX5_wayBetween_20 : decode cX5_wayBetween 20 = .ok (.iload_n 1, 1) := by decide +kernel
theorem dX5_wayBetween_21 : decode cX5_wayBetween 21 = .ok (.bipush 7, 2) := by decide +kernel
theorem dX5_wayBetween_23 : decode cX5_wayBetween 23 = .ok (.imul, 1) := by decide +kernel
theorem dX5_wayBetween_24 : decode cX5_wayBetween 24 = .ok (.iload_n 2, 1) := by decide +kernel
theorem dX5_wayBetween_25 : decode cX5_wayBetween 25 = .ok (.iadd, 1) := by decide +kernel
theorem dX5_wayBetween_26 : decode cX5_wayBetween 26 = .ok (.iaload, 1) := by decide +kernel
theorem dX5_wayBetween_27 : decode cX5_wayBetween 27 = .ok (.goto 4, 3) := by decide +kernel
theorem dX5_wayBetween_30 : decode cX5_wayBetween 30 = .ok (.iconst 0, 1) := by decide +kernel
theorem dX5_wayBetween_31 : decode cX5_wayBetween 31 = .ok (.ireturn, 1) := by decide +kernel
theorem dX5_lawLets_0 : decode cX5_lawLets 0 = .ok (.iload_n 1, 1) := by decide +kernel
theorem dX5_lawLets_1 : decode cX5_lawLets 1 = .ok (.iconst 3, 1) := by decide +kernel
theorem dX5_lawLets_2 : decode cX5_lawLets 2 = .ok (.if_icmp .eq 16, 3) := by decide +kernel
theorem dX5_lawLets_5 : decode cX5_lawLets 5 = .ok (.iload_n 1, 1) := by decide +kernel
theorem dX5_lawLets_6 : decode cX5_lawLets 6 = .ok (.iconst 4, 1) := by decide +kernel
theorem dX5_lawLets_7 : decode cX5_lawLets 7 = .ok (.if_icmp .ne 13, 3) := by decide +kernel
theorem dX5_lawLets_10 : decode cX5_lawLets 10 = .ok (.iload 4, 2) := by decide +kernel
theorem dX5_lawLets_12 : decode cX5_lawLets 12 = .ok (.sipush 720, 3) := by decide +kernel
theorem dX5_lawLets_15 : decode cX5_lawLets 15 = .ok (.if_icmp .lt 5, 3) := by decide +kernel
theorem dX5_lawLets_18 : decode cX5_lawLets 18 = .ok (.iconst 1, 1) := by decide +kernel
theorem dX5_lawLets_19 : decode cX5_lawLets 19 = .ok (.ireturn, 1) := by decide +kernel
theorem dX5_lawLets_20 : decode cX5_lawLets 20 = .ok (.aload_n 0, 1) := by decide +kernel
theorem dX5_lawLets_21 : decode cX5_lawLets 21 = .ok (.getfield 19, 3) := by decide +kernel
theorem dX5_lawLets_24 : decode cX5_lawLets 24 = .ok (.iload_n 3, 1) := by decide +kernel
theorem dX5_lawLets_25 : decode cX5_lawLets 25 = .ok (.aaload, 1) := by decide +kernel
theorem dX5_lawLets_26 : decode cX5_lawLets 26 = .ok (.astore 6, 2) := by decide +kernel
theorem dX5_lawLets_28 : decode cX5_lawLets 28 = .ok (.iload_n 2, 1) := by decide +kernel
theorem dX5_lawLets_29 : decode cX5_lawLets 29 = .ok (.aload 6, 2) := by decide +kernel
theorem dX5_lawLets_31 : decode cX5_lawLets 31 = .ok (.getfield 118, 3) := by decide +kernel
theorem dX5_lawLets_34 : decode cX5_lawLets 34 = .ok (.if_icmp .eq 12, 3) := by decide +kernel
theorem dX5_lawLets_37 : decode cX5_lawLets 37 = .ok (.iload_n 2, 1) := by decide +kernel
theorem dX5_lawLets_38 : decode cX5_lawLets 38 = .ok (.aload 6, 2) := by decide +kernel
theorem dX5_lawLets_40 : decode cX5_lawLets 40 = .ok (.getfield 121, 3) := by decide +kernel
theorem dX5_lawLets_43 : decode cX5_lawLets 43 = .ok (.if_icmp .ne 36, 3) := by decide +kernel
theorem dX5_lawLets_46 : decode cX5_lawLets 46 = .ok (.iload_n 1, 1) := by decide +kernel
theorem dX5_lawLets_47 : decode cX5_lawLets 47 = .ok (.iconst 2, 1) := by decide +kernel
theorem dX5_lawLets_48 : decode cX5_lawLets 48 = .ok (.if_icmp .ne 29, 3) := by decide +kernel
theorem dX5_lawLets_51 : decode cX5_lawLets 51 = .ok (.iload 5, 2) := by decide +kernel
theorem dX5_lawLets_53 : decode cX5_lawLets 53 = .ok (.ifCond .lt 24, 3) := by decide +kernel
theorem dX5_lawLets_56 : decode cX5_lawLets 56 = .ok (.iload 4, 2) := by decide +kernel
theorem dX5_lawLets_58 : decode cX5_lawLets 58 = .ok (.iload 5, 2) := by decide +kernel
theorem dX5_lawLets_60 : decode cX5_lawLets 60 = .ok (.if_icmp .lt 17, 3) := by decide +kernel
theorem dX5_lawLets_63 : decode cX5_lawLets 63 = .ok (.iload 4, 2) := by decide +kernel
theorem dX5_lawLets_65 : decode cX5_lawLets 65 = .ok (.iload 5, 2) := by decide +kernel
theorem dX5_lawLets_67 : decode cX5_lawLets 67 = .ok (.isub, 1) := by decide +kernel
theorem dX5_lawLets_68 : decode cX5_lawLets 68 = .ok (.bipush 60, 2) := by decide +kernel
theorem dX5_lawLets_70 : decode cX5_lawLets 70 = .ok (.if_icmp .ge 7, 3) := by decide +kernel
theorem dX5_lawLets_73 : decode cX5_lawLets 73 = .ok (.iconst 1, 1) := by decide +kernel
theorem dX5_lawLets_74 : decode cX5_lawLets 74 = .ok (.goto 4, 3) := by decide +kernel
theorem dX5_lawLets_77 : decode cX5_lawLets 77 = .ok (.iconst 0, 1) := by decide +kernel
theorem dX5_lawLets_78 : decode cX5_lawLets 78 = .ok (.ireturn, 1) := by decide +kernel
theorem dX5_lawLets_79 : decode cX5_lawLets 79 = .ok (.iload_n 1, 1) := by decide +kernel
theorem dX5_lawLets_80 : decode cX5_lawLets 80 = .ok (.iconst 1, 1) := by decide +kernel
theorem dX5_lawLets_81 : decode cX5_lawLets 81 = .ok (.if_icmp .eq 10, 3) := by decide +kernel
theorem dX5_lawLets_84 : decode cX5_lawLets 84 = .ok (.iload_n 1, 1) := by decide +kernel
theorem dX5_lawLets_85 : decode cX5_lawLets 85 = .ok (.iconst 4, 1) := by decide +kernel
theorem dX5_lawLets_86 : decode cX5_lawLets 86 = .ok (.if_icmp .eq 5, 3) := by decide +kernel
theorem dX5_lawLets_89 : decode cX5_lawLets 89 = .ok (.iconst 1, 1) := by decide +kernel
theorem dX5_lawLets_90 : decode cX5_lawLets 90 = .ok (.ireturn, 1) := by decide +kernel
theorem dX5_lawLets_91 : decode cX5_lawLets 91 = .ok (.aload_n 0, 1) := by decide +kernel
theorem dX5_lawLets_92 : decode cX5_lawLets 92 = .ok (.getfield 11, 3) := by decide +kernel
theorem dX5_lawLets_95 : decode cX5_lawLets 95 = .ok (.iload_n 2, 1) := by decide +kernel
theorem dX5_lawLets_96 : decode cX5_lawLets 96 = .ok (.aaload, 1) := by decide +kernel
theorem dX5_lawLets_97 : decode cX5_lawLets 97 = .ok (.getfield 106, 3) := by decide +kernel
theorem dX5_lawLets_100 : decode cX5_lawLets 100 = .ok (.istore 7, 2) := by decide +kernel
theorem dX5_lawLets_102 : decode cX5_lawLets 102 = .ok (.iload 7, 2) := by decide +kernel
theorem dX5_lawLets_104 : decode cX5_lawLets 104 = .ok (.ifCond .eq 39, 3) := by decide +kernel
theorem dX5_lawLets_107 : decode cX5_lawLets 107 = .ok (.iload 7, 2) := by decide +kernel
theorem dX5_lawLets_109 : decode cX5_lawLets 109 = .ok (.aload_n 0, 1) := by decide +kernel
theorem dX5_lawLets_110 : decode cX5_lawLets 110 = .ok (.getfield 11, 3) := by decide +kernel
theorem dX5_lawLets_113 : decode cX5_lawLets 113 = .ok (.aload 6, 2) := by decide +kernel
theorem dX5_lawLets_115 : decode cX5_lawLets 115 = .ok (.getfield 118, 3) := by decide +kernel
theorem dX5_lawLets_118 : decode cX5_lawLets 118 = .ok (.aaload, 1) := by decide +kernel
theorem dX5_lawLets_119 : decode cX5_lawLets 119 = .ok (.getfield 106, 3) := by decide +kernel
theorem dX5_lawLets_122 : decode cX5_lawLets 122 = .ok (.if_icmp .eq 25, 3) := by decide +kernel
theorem dX5_lawLets_125 : decode cX5_lawLets 125 = .ok (.iload 7, 2) := by decide +kernel
theorem dX5_lawLets_127 : decode cX5_lawLets 127 = .ok (.aload_n 0, 1) := by decide +kernel
theorem dX5_lawLets_128 : decode cX5_lawLets 128 = .ok (.getfield 11, 3) := by decide +kernel
theorem dX5_lawLets_131 : decode cX5_lawLets 131 = .ok (.aload 6, 2) := by decide +kernel
theorem dX5_lawLets_133 : decode cX5_lawLets 133 = .ok (.getfield 121, 3) := by decide +kernel
theorem dX5_lawLets_136 : decode cX5_lawLets 136 = .ok (.aaload, 1) := by decide +kernel
theorem dX5_lawLets_137 : decode cX5_lawLets 137 = .ok (.getfield 106, 3) := by decide +kernel
theorem dX5_lawLets_140 : decode cX5_lawLets 140 = .ok (.if_icmp .eq 7, 3) := by decide +kernel
theorem dX5_lawLets_143 : decode cX5_lawLets 143 = .ok (.iconst 1, 1) := by decide +kernel
theorem dX5_lawLets_144 : decode cX5_lawLets 144 = .ok (.goto 4, 3) := by decide +kernel
theorem dX5_lawLets_147 : decode cX5_lawLets 147 = .ok (.iconst 0, 1) := by decide +kernel
theorem dX5_lawLets_148 : decode cX5_lawLets 148 = .ok (.ireturn, 1) := by decide +kernel
theorem dX5_fits_0 : decode cX5_fits 0 = .ok (.aload_n 0, 1) := by decide +kernel
theorem dX5_fits_1 : decode cX5_fits 1 = .ok (.getfield 19, 3) := by decide +kernel
theorem dX5_fits_4 : decode cX5_fits 4 = .ok (.iload_n 2, 1) := by decide +kernel
theorem dX5_fits_5 : decode cX5_fits 5 = .ok (.aaload, 1) := by decide +kernel
theorem dX5_fits_6 : decode cX5_fits 6 = .ok (.getfield 124, 3) := by decide +kernel
theorem dX5_fits_9 : decode cX5_fits 9 = .ok (.aload_n 0, 1) := by decide +kernel
theorem dX5_fits_10 : decode cX5_fits 10 = .ok (.getfield 11, 3) := by decide +kernel
theorem dX5_fits_13 : decode cX5_fits 13 = .ok (.iload_n 1, 1) := by decide +kernel
theorem dX5_fits_14 : decode cX5_fits 14 = .ok (.aaload, 1) := by decide +kernel
theorem dX5_fits_15 : decode cX5_fits 15 = .ok (.getfield 109, 3) := by decide +kernel
theorem dX5_fits_18 : decode cX5_fits 18 = .ok (.if_icmp .gt 7, 3) := by decide +kernel
theorem dX5_fits_21 : decode cX5_fits 21 = .ok (.iconst 1, 1) := by decide +kernel
theorem dX5_fits_22 : decode cX5_fits 22 = .ok (.goto 4, 3) := by decide +kernel
theorem dX5_fits_25 : decode cX5_fits 25 = .ok (.iconst 0, 1) := by decide +kernel
theorem dX5_fits_26 : decode cX5_fits 26 = .ok (.ireturn, 1) := by decide +kernel
theorem dX5_letsCarry_0 : decode cX5_letsCarry 0 = .ok (.aload_n 0, 1) := by decide +kernel
theorem dX5_letsCarry_1 : decode cX5_letsCarry 1 = .ok (.iload_n 1, 1) := by decide +kernel
theorem dX5_letsCarry_2 : decode cX5_letsCarry 2 = .ok (.iload_n 2, 1) := by decide +kernel
theorem dX5_letsCarry_3 : decode cX5_letsCarry 3 = .ok (.invokevirtual 143, 3) := by decide +kernel
theorem dX5_letsCarry_6 : decode cX5_letsCarry 6 = .ok (.ifCond .eq 30, 3) := by decide +kernel
theorem dX5_letsCarry_9 : decode cX5_letsCarry 9 = .ok (.aload_n 0, 1) := by decide +kernel
theorem dX5_letsCarry_10 : decode cX5_letsCarry 10 = .ok (.aload_n 0, 1) := by decide +kernel
theorem dX5_letsCarry_11 : decode cX5_letsCarry 11 = .ok (.getfield 58, 3) := by decide +kernel
theorem dX5_letsCarry_14 : decode cX5_letsCarry 14 = .ok (.iload_n 1, 1) := by decide +kernel
theorem dX5_letsCarry_15 : decode cX5_letsCarry 15 = .ok (.iload_n 2, 1) := by decide +kernel
theorem dX5_letsCarry_16 : decode cX5_letsCarry 16 = .ok (.iload_n 3, 1) := by decide +kernel
theorem dX5_letsCarry_17 : decode cX5_letsCarry 17 = .ok (.aload_n 0, 1) := by decide +kernel
theorem dX5_letsCarry_18 : decode cX5_letsCarry 18 = .ok (.getfield 19, 3) := by decide +kernel
theorem dX5_letsCarry_21 : decode cX5_letsCarry 21 = .ok (.iload_n 2, 1) := by decide +kernel
theorem dX5_letsCarry_22 : decode cX5_letsCarry 22 = .ok (.aaload, 1) := by decide +kernel
theorem dX5_letsCarry_23 : decode cX5_letsCarry 23 = .ok (.getfield 136, 3) := by decide +kernel
theorem dX5_letsCarry_26 : decode cX5_letsCarry 26 = .ok (.invokevirtual 147, 3) := by decide +kernel
theorem dX5_letsCarry_29 : decode cX5_letsCarry 29 = .ok (.ifCond .eq 7, 3) := by decide +kernel
theorem dX5_letsCarry_32 : decode cX5_letsCarry 32 = .ok (.iconst 1, 1) := by decide +kernel
theorem dX5_letsCarry_33 : decode cX5_letsCarry 33 = .ok (.goto 4, 3) := by decide +kernel
theorem dX5_letsCarry_36 : decode cX5_letsCarry 36 = .ok (.iconst 0, 1) := by decide +kernel
theorem dX5_letsCarry_37 : decode cX5_letsCarry 37 = .ok (.ireturn, 1) := by decide +kernel
theorem dX5_carriedBits_0 : decode cX5_carriedBits 0 = .ok (.iconst 0, 1) := by decide +kernel
theorem dX5_carriedBits_1 : decode cX5_carriedBits 1 = .ok (.istore_n 2, 1) := by decide +kernel
theorem dX5_carriedBits_2 : decode cX5_carriedBits 2 = .ok (.iconst 0, 1) := by decide +kernel
theorem dX5_carriedBits_3 : decode cX5_carriedBits 3 = .ok (.istore_n 3, 1) := by decide +kernel
theorem dX5_carriedBits_4 : decode cX5_carriedBits 4 = .ok (.iload_n 3, 1) := by decide +kernel
theorem dX5_carriedBits_5 : decode cX5_carriedBits 5 = .ok (.aload_n 0, 1) := by decide +kernel
theorem dX5_carriedBits_6 : decode cX5_carriedBits 6 = .ok (.getfield 55, 3) := by decide +kernel
theorem dX5_carriedBits_9 : decode cX5_carriedBits 9 = .ok (.if_icmp .ge 31, 3) := by decide +kernel
theorem dX5_carriedBits_12 : decode cX5_carriedBits 12 = .ok (.aload_n 0, 1) := by decide +kernel
theorem dX5_carriedBits_13 : decode cX5_carriedBits 13 = .ok (.getfield 19, 3) := by decide +kernel
theorem dX5_carriedBits_16 : decode cX5_carriedBits 16 = .ok (.iload_n 3, 1) := by decide +kernel
theorem dX5_carriedBits_17 : decode cX5_carriedBits 17 = .ok (.aaload, 1) := by decide +kernel
theorem dX5_carriedBits_18 : decode cX5_carriedBits 18 = .ok (.getfield 97, 3) := by decide +kernel
theorem dX5_carriedBits_21 : decode cX5_carriedBits 21 = .ok (.bipush 10, 2) := by decide +kernel
theorem dX5_carriedBits_23 : decode cX5_carriedBits 23 = .ok (.iload_n 1, 1) := by decide +kernel
theorem dX5_carriedBits_24 : decode cX5_carriedBits 24 = .ok (.iadd, 1) := by decide +kernel
theorem dX5_carriedBits_25 : decode cX5_carriedBits 25 = .ok (.if_icmp .ne 9, 3) := by decide +kernel
theorem dX5_carriedBits_28 : decode cX5_carriedBits 28 = .ok (.iload_n 2, 1) := by decide +kernel
theorem dX5_carriedBits_29 : decode cX5_carriedBits 29 = .ok (.iconst 1, 1) := by decide +kernel
theorem dX5_carriedBits_30 : decode cX5_carriedBits 30 = .ok (.iload_n 3, 1) := by decide +kernel
theorem dX5_carriedBits_31 : decode cX5_carriedBits 31 = .ok (.ishl, 1) := by decide +kernel
theorem dX5_carriedBits_32 : decode cX5_carriedBits 32 = .ok (.ior, 1) := by decide +kernel
theorem dX5_carriedBits_33 : decode cX5_carriedBits 33 = .ok (.istore_n 2, 1) := by decide +kernel
theorem dX5_carriedBits_34 : decode cX5_carriedBits 34 = .ok (.iinc 3 1, 3) := by decide +kernel
theorem dX5_carriedBits_37 : decode cX5_carriedBits 37 = .ok (.goto (-33), 3) := by decide +kernel
theorem dX5_carriedBits_40 : decode cX5_carriedBits 40 = .ok (.iload_n 2, 1) := by decide +kernel
theorem dX5_carriedBits_41 : decode cX5_carriedBits 41 = .ok (.ireturn, 1) := by decide +kernel
theorem dX5_carriedThings_0 : decode cX5_carriedThings 0 = .ok (.iconst 0, 1) := by decide +kernel
theorem dX5_carriedThings_1 : decode cX5_carriedThings 1 = .ok (.istore_n 1, 1) := by decide +kernel
theorem dX5_carriedThings_2 : decode cX5_carriedThings 2 = .ok (.iconst 0, 1) := by decide +kernel
theorem dX5_carriedThings_3 : decode cX5_carriedThings 3 = .ok (.istore_n 2, 1) := by decide +kernel
theorem dX5_carriedThings_4 : decode cX5_carriedThings 4 = .ok (.iload_n 2, 1) := by decide +kernel
theorem dX5_carriedThings_5 : decode cX5_carriedThings 5 = .ok (.aload_n 0, 1) := by decide +kernel
theorem dX5_carriedThings_6 : decode cX5_carriedThings 6 = .ok (.getfield 55, 3) := by decide +kernel
theorem dX5_carriedThings_9 : decode cX5_carriedThings 9 = .ok (.if_icmp .ge 26, 3) := by decide +kernel
theorem dX5_carriedThings_12 : decode cX5_carriedThings 12 = .ok (.aload_n 0, 1) := by decide +kernel
theorem dX5_carriedThings_13 : decode cX5_carriedThings 13 = .ok (.getfield 19, 3) := by decide +kernel
theorem dX5_carriedThings_16 : decode cX5_carriedThings 16 = .ok (.iload_n 2, 1) := by decide +kernel
theorem dX5_carriedThings_17 : decode cX5_carriedThings 17 = .ok (.aaload, 1) := by decide +kernel
theorem dX5_carriedThings_18 : decode cX5_carriedThings 18 = .ok (.getfield 97, 3) := by decide +kernel
theorem dX5_carriedThings_21 : decode cX5_carriedThings 21 = .ok (.bipush 10, 2) := by decide +kernel
theorem dX5_carriedThings_23 : decode cX5_carriedThings 23 = .ok (.if_icmp .lt 6, 3) := by decide +kernel
theorem dX5_carriedThings_26 : decode cX5_carriedThings 26 = .ok (.iinc 1 1, 3) := by decide +kernel
theorem dX5_carriedThings_29 : decode cX5_carriedThings 29 = .ok (.iinc 2 1, 3) := by decide +kernel
theorem dX5_carriedThings_32 : decode cX5_carriedThings 32 = .ok (.goto (-28), 3) := by decide +kernel
theorem dX5_carriedThings_35 : decode cX5_carriedThings 35 = .ok (.iload_n 1, 1) := by decide +kernel
theorem dX5_carriedThings_36 : decode cX5_carriedThings 36 = .ok (.ireturn, 1) := by decide +kernel
theorem dX5_hasSpareRoom_0 : decode cX5_hasSpareRoom 0 = .ok (.aload_n 0, 1) := by decide +kernel
theorem dX5_hasSpareRoom_1 : decode cX5_hasSpareRoom 1 = .ok (.getfield 19, 3) := by decide +kernel
theorem dX5_hasSpareRoom_4 : decode cX5_hasSpareRoom 4 = .ok (.iload_n 2, 1) := by decide +kernel
theorem dX5_hasSpareRoom_5 : decode cX5_hasSpareRoom 5 = .ok (.aaload, 1) := by decide +kernel
theorem dX5_hasSpareRoom_6 : decode cX5_hasSpareRoom 6 = .ok (.getfield 124, 3) := by decide +kernel
theorem dX5_hasSpareRoom_9 : decode cX5_hasSpareRoom 9 = .ok (.istore_n 3, 1) := by decide +kernel
theorem dX5_hasSpareRoom_10 : decode cX5_hasSpareRoom 10 = .ok (.iconst 0, 1) := by decide +kernel
theorem dX5_hasSpareRoom_11 : decode cX5_hasSpareRoom 11 = .ok (.istore 4, 2) := by decide +kernel
theorem dX5_hasSpareRoom_13 : decode cX5_hasSpareRoom 13 = .ok (.iload 4, 2) := by decide +kernel
theorem dX5_hasSpareRoom_15 : decode cX5_hasSpareRoom 15 = .ok (.aload_n 0, 1) := by decide +kernel
theorem dX5_hasSpareRoom_16 : decode cX5_hasSpareRoom 16 = .ok (.getfield 55, 3) := by decide +kernel
theorem dX5_hasSpareRoom_19 : decode cX5_hasSpareRoom 19 = .ok (.if_icmp .ge 39, 3) := by decide +kernel
theorem dX5_hasSpareRoom_22 : decode cX5_hasSpareRoom 22 = .ok (.aload_n 0, 1) := by decide +kernel
theorem dX5_hasSpareRoom_23 : decode cX5_hasSpareRoom 23 = .ok (.getfield 19, 3) := by decide +kernel
theorem dX5_hasSpareRoom_26 : decode cX5_hasSpareRoom 26 = .ok (.iload 4, 2) := by decide +kernel
theorem dX5_hasSpareRoom_28 : decode cX5_hasSpareRoom 28 = .ok (.aaload, 1) := by decide +kernel
theorem dX5_hasSpareRoom_29 : decode cX5_hasSpareRoom 29 = .ok (.getfield 97, 3) := by decide +kernel
theorem dX5_hasSpareRoom_32 : decode cX5_hasSpareRoom 32 = .ok (.bipush 10, 2) := by decide +kernel
theorem dX5_hasSpareRoom_34 : decode cX5_hasSpareRoom 34 = .ok (.iload_n 1, 1) := by decide +kernel
theorem dX5_hasSpareRoom_35 : decode cX5_hasSpareRoom 35 = .ok (.iadd, 1) := by decide +kernel
theorem dX5_hasSpareRoom_36 : decode cX5_hasSpareRoom 36 = .ok (.if_icmp .ne 16, 3) := by decide +kernel
theorem dX5_hasSpareRoom_39 : decode cX5_hasSpareRoom 39 = .ok (.iload_n 3, 1) := by decide +kernel
theorem dX5_hasSpareRoom_40 : decode cX5_hasSpareRoom 40 = .ok (.aload_n 0, 1) := by decide +kernel
theorem dX5_hasSpareRoom_41 : decode cX5_hasSpareRoom 41 = .ok (.getfield 19, 3) := by decide +kernel
theorem dX5_hasSpareRoom_44 : decode cX5_hasSpareRoom 44 = .ok (.iload 4, 2) := by decide +kernel
theorem dX5_hasSpareRoom_46 : decode cX5_hasSpareRoom 46 = .ok (.aaload, 1) := by decide +kernel
theorem dX5_hasSpareRoom_47 : decode cX5_hasSpareRoom 47 = .ok (.getfield 124, 3) := by decide +kernel
theorem dX5_hasSpareRoom_50 : decode cX5_hasSpareRoom 50 = .ok (.iadd, 1) := by decide +kernel
theorem dX5_hasSpareRoom_51 : decode cX5_hasSpareRoom 51 = .ok (.istore_n 3, 1) := by decide +kernel
theorem dX5_hasSpareRoom_52 : decode cX5_hasSpareRoom 52 = .ok (.iinc 4 1, 3) := by decide +kernel
theorem dX5_hasSpareRoom_55 : decode cX5_hasSpareRoom 55 = .ok (.goto (-42), 3) := by decide +kernel
theorem dX5_hasSpareRoom_58 : decode cX5_hasSpareRoom 58 = .ok (.iload_n 3, 1) := by decide +kernel
theorem dX5_hasSpareRoom_59 : decode cX5_hasSpareRoom 59 = .ok (.aload_n 0, 1) := by decide +kernel
theorem dX5_hasSpareRoom_60 : decode cX5_hasSpareRoom 60 = .ok (.getfield 11, 3) := by decide +kernel
theorem dX5_hasSpareRoom_63 : decode cX5_hasSpareRoom 63 = .ok (.iload_n 1, 1) := by decide +kernel
theorem dX5_hasSpareRoom_64 : decode cX5_hasSpareRoom 64 = .ok (.aaload, 1) := by decide +kernel
theorem dX5_hasSpareRoom_65 : decode cX5_hasSpareRoom 65 = .ok (.getfield 109, 3) := by decide +kernel
theorem dX5_hasSpareRoom_68 : decode cX5_hasSpareRoom 68 = .ok (.if_icmp .gt 7, 3) := by decide +kernel
theorem dX5_hasSpareRoom_71 : decode cX5_hasSpareRoom 71 = .ok (.iconst 1, 1) := by decide +kernel
theorem dX5_hasSpareRoom_72 : decode cX5_hasSpareRoom 72 = .ok (.goto 4, 3) := by decide +kernel
theorem dX5_hasSpareRoom_75 : decode cX5_hasSpareRoom 75 = .ok (.iconst 0, 1) := by decide +kernel
theorem dX5_hasSpareRoom_76 : decode cX5_hasSpareRoom 76 = .ok (.ireturn, 1) := by decide +kernel
theorem dX5_load_0 : decode cX5_load 0 = .ok (.aload_n 0, 1) := by decide +kernel
theorem dX5_load_1 : decode cX5_load 1 = .ok (.getfield 19, 3) := by decide +kernel
theorem dX5_load_4 : decode cX5_load 4 = .ok (.iload_n 2, 1) := by decide +kernel
theorem dX5_load_5 : decode cX5_load 5 = .ok (.aaload, 1) := by decide +kernel
theorem dX5_load_6 : decode cX5_load 6 = .ok (.bipush 10, 2) := by decide +kernel
theorem dX5_load_8 : decode cX5_load 8 = .ok (.iload_n 1, 1) := by decide +kernel
theorem dX5_load_9 : decode cX5_load 9 = .ok (.iadd, 1) := by decide +kernel
theorem dX5_load_10 : decode cX5_load 10 = .ok (.putfield 97, 3) := by decide +kernel
theorem dX5_load_13 : decode cX5_load 13 = .ok (.aload_n 0, 1) := by decide +kernel
theorem dX5_load_14 : decode cX5_load 14 = .ok (.getfield 19, 3) := by decide +kernel
theorem dX5_load_17 : decode cX5_load 17 = .ok (.iload_n 2, 1) := by decide +kernel
theorem dX5_load_18 : decode cX5_load 18 = .ok (.aaload, 1) := by decide +kernel
theorem dX5_load_19 : decode cX5_load 19 = .ok (.iconst 0, 1) := by decide +kernel
theorem dX5_load_20 : decode cX5_load 20 = .ok (.putfield 133, 3) := by decide +kernel
theorem dX5_load_23 : decode cX5_load 23 = .ok (.return_, 1) := by decide +kernel
theorem dX5_takeUp_0 : decode cX5_takeUp 0 = .ok (.aload_n 0, 1) := by decide +kernel
theorem dX5_takeUp_1 : decode cX5_takeUp 1 = .ok (.getfield 11, 3) := by decide +kernel
theorem dX5_takeUp_4 : decode cX5_takeUp 4 = .ok (.iload_n 1, 1) := by decide +kernel
theorem dX5_takeUp_5 : decode cX5_takeUp 5 = .ok (.aaload, 1) := by decide +kernel
theorem dX5_takeUp_6 : decode cX5_takeUp 6 = .ok (.astore_n 3, 1) := by decide +kernel
theorem dX5_takeUp_7 : decode cX5_takeUp 7 = .ok (.aload_n 0, 1) := by decide +kernel
theorem dX5_takeUp_8 : decode cX5_takeUp 8 = .ok (.getfield 19, 3) := by decide +kernel
theorem dX5_takeUp_11 : decode cX5_takeUp 11 = .ok (.iload_n 2, 1) := by decide +kernel
theorem dX5_takeUp_12 : decode cX5_takeUp 12 = .ok (.aaload, 1) := by decide +kernel
theorem dX5_takeUp_13 : decode cX5_takeUp 13 = .ok (.astore 4, 2) := by decide +kernel
theorem dX5_takeUp_15 : decode cX5_takeUp 15 = .ok (.aload_n 3, 1) := by decide +kernel
theorem dX5_takeUp_16 : decode cX5_takeUp 16 = .ok (.getfield 112, 3) := by decide +kernel
theorem dX5_takeUp_19 : decode cX5_takeUp 19 = .ok (.aload 4, 2) := by decide +kernel
theorem dX5_takeUp_21 : decode cX5_takeUp 21 = .ok (.getfield 133, 3) := by decide +kernel
theorem dX5_takeUp_24 : decode cX5_takeUp 24 = .ok (.invokestatic 80, 3) := by decide +kernel
theorem dX5_takeUp_27 : decode cX5_takeUp 27 = .ok (.istore 5, 2) := by decide +kernel
theorem dX5_takeUp_29 : decode cX5_takeUp 29 = .ok (.aload 4, 2) := by decide +kernel
theorem dX5_takeUp_31 : decode cX5_takeUp 31 = .ok (.getfield 97, 3) := by decide +kernel
theorem dX5_takeUp_34 : decode cX5_takeUp 34 = .ok (.aload_n 3, 1) := by decide +kernel
theorem dX5_takeUp_35 : decode cX5_takeUp 35 = .ok (.getfield 86, 3) := by decide +kernel
theorem dX5_takeUp_38 : decode cX5_takeUp 38 = .ok (.if_icmp .ne 23, 3) := by decide +kernel
theorem dX5_takeUp_41 : decode cX5_takeUp 41 = .ok (.aload_n 0, 1) := by decide +kernel
theorem dX5_takeUp_42 : decode cX5_takeUp 42 = .ok (.iload_n 1, 1) := by decide +kernel
theorem dX5_takeUp_43 : decode cX5_takeUp 43 = .ok (.iload_n 2, 1) := by decide +kernel
theorem dX5_takeUp_44 : decode cX5_takeUp 44 = .ok (.iload 5, 2) := by decide +kernel
theorem dX5_takeUp_46 : decode cX5_takeUp 46 = .ok (.invokevirtual 151, 3) := by decide +kernel
theorem dX5_takeUp_49 : decode cX5_takeUp 49 = .ok (.ifCond .eq 12, 3) := by decide +kernel
theorem dX5_takeUp_52 : decode cX5_takeUp 52 = .ok (.aload_n 0, 1) := by decide +kernel
theorem dX5_takeUp_53 : decode cX5_takeUp 53 = .ok (.iload_n 1, 1) := by decide +kernel
theorem dX5_takeUp_54 : decode cX5_takeUp 54 = .ok (.iload_n 2, 1) := by decide +kernel
theorem dX5_takeUp_55 : decode cX5_takeUp 55 = .ok (.invokevirtual 154, 3) := by decide +kernel
theorem dX5_takeUp_58 : decode cX5_takeUp 58 = .ok (.ifCond .ne 5, 3) := by decide +kernel
theorem dX5_takeUp_61 : decode cX5_takeUp 61 = .ok (.iconst 0, 1) := by decide +kernel
theorem dX5_takeUp_62 : decode cX5_takeUp 62 = .ok (.ireturn, 1) := by decide +kernel
theorem dX5_takeUp_63 : decode cX5_takeUp 63 = .ok (.aload_n 3, 1) := by decide +kernel
theorem dX5_takeUp_64 : decode cX5_takeUp 64 = .ok (.iload 5, 2) := by decide +kernel
theorem dX5_takeUp_66 : decode cX5_takeUp 66 = .ok (.putfield 112, 3) := by decide +kernel
theorem dX5_takeUp_69 : decode cX5_takeUp 69 = .ok (.aload_n 0, 1) := by decide +kernel
theorem dX5_takeUp_70 : decode cX5_takeUp 70 = .ok (.iload_n 1, 1) := by decide +kernel
theorem dX5_takeUp_71 : decode cX5_takeUp 71 = .ok (.iload_n 2, 1) := by decide +kernel
theorem dX5_takeUp_72 : decode cX5_takeUp 72 = .ok (.invokevirtual 157, 3) := by decide +kernel
theorem dX5_takeUp_75 : decode cX5_takeUp 75 = .ok (.iconst 1, 1) := by decide +kernel
theorem dX5_takeUp_76 : decode cX5_takeUp 76 = .ok (.ireturn, 1) := by decide +kernel
theorem dX5_walkTo_0 : decode cX5_walkTo 0 = .ok (.aload_n 0, 1) := by decide +kernel
theorem dX5_walkTo_1 : decode cX5_walkTo 1 = .ok (.getfield 11, 3) := by decide +kernel
theorem dX5_walkTo_4 : decode cX5_walkTo 4 = .ok (.iload_n 1, 1) := by decide +kernel
theorem dX5_walkTo_5 : decode cX5_walkTo 5 = .ok (.aaload, 1) := by decide +kernel
theorem dX5_walkTo_6 : decode cX5_walkTo 6 = .ok (.astore_n 3, 1) := by decide +kernel
theorem dX5_walkTo_7 : decode cX5_walkTo 7 = .ok (.aload_n 0, 1) := by decide +kernel
theorem dX5_walkTo_8 : decode cX5_walkTo 8 = .ok (.aload_n 3, 1) := by decide +kernel
theorem dX5_walkTo_9 : decode cX5_walkTo 9 = .ok (.getfield 86, 3) := by decide +kernel
theorem dX5_walkTo_12 : decode cX5_walkTo 12 = .ok (.iload_n 2, 1) := by decide +kernel
theorem dX5_walkTo_13 : decode cX5_walkTo 13 = .ok (.invokevirtual 161, 3) := by decide +kernel
theorem dX5_walkTo_16 : decode cX5_walkTo 16 = .ok (.istore 4, 2) := by decide +kernel
theorem dX5_walkTo_18 : decode cX5_walkTo 18 = .ok (.iload 4, 2) := by decide +kernel
theorem dX5_walkTo_20 : decode cX5_walkTo 20 = .ok (.ldc 139, 2) := by decide +kernel
theorem dX5_walkTo_22 : decode cX5_walkTo 22 = .ok (.if_icmp .lt 5, 3) := by decide +kernel
theorem dX5_walkTo_25 : decode cX5_walkTo 25 = .ok (.iconst 0, 1) := by decide +kernel
theorem dX5_walkTo_26 : decode cX5_walkTo 26 = .ok (.ireturn, 1) := by decide +kernel
theorem dX5_walkTo_27 : decode cX5_walkTo 27 = .ok (.iconst 0, 1) := by decide +kernel
theorem dX5_walkTo_28 : decode cX5_walkTo 28 = .ok (.istore 5, 2) := by decide +kernel
theorem dX5_walkTo_30 : decode cX5_walkTo 30 = .ok (.iload 5, 2) := by decide +kernel
theorem dX5_walkTo_32 : decode cX5_walkTo 32 = .ok (.aload_n 0, 1) := by decide +kernel
theorem dX5_walkTo_33 : decode cX5_walkTo 33 = .ok (.getfield 55, 3) := by decide +kernel
theorem dX5_walkTo_36 : decode cX5_walkTo 36 = .ok (.if_icmp .ge 42, 3) := by decide +kernel
theorem dX5_walkTo_39 : decode cX5_walkTo 39 = .ok (.aload_n 0, 1) := by decide +kernel
theorem dX5_walkTo_40 : decode cX5_walkTo 40 = .ok (.getfield 19, 3) := by decide +kernel
theorem dX5_walkTo_43 : decode cX5_walkTo 43 = .ok (.iload 5, 2) := by decide +kernel
theorem dX5_walkTo_45 : decode cX5_walkTo 45 = .ok (.aaload, 1) := by decide +kernel
theorem dX5_walkTo_46 : decode cX5_walkTo 46 = .ok (.getfield 97, 3) := by decide +kernel
theorem dX5_walkTo_49 : decode cX5_walkTo 49 = .ok (.bipush 10, 2) := by decide +kernel
theorem dX5_walkTo_51 : decode cX5_walkTo 51 = .ok (.iload_n 1, 1) := by decide +kernel
theorem dX5_walkTo_52 : decode cX5_walkTo 52 = .ok (.iadd, 1) := by decide +kernel
theorem dX5_walkTo_53 : decode cX5_walkTo 53 = .ok (.if_icmp .ne 19, 3) := by decide +kernel
theorem dX5_walkTo_56 : decode cX5_walkTo 56 = .ok (.aload_n 0, 1) := by decide +kernel
theorem dX5_walkTo_57 : decode cX5_walkTo 57 = .ok (.iload_n 1, 1) := by decide +kernel
theorem dX5_walkTo_58 : decode cX5_walkTo 58 = .ok (.iload 5, 2) := by decide +kernel
theorem dX5_walkTo_60 : decode cX5_walkTo 60 = .ok (.aload_n 3, 1) := by decide +kernel
theorem dX5_walkTo_61 : decode cX5_walkTo 61 = .ok (.getfield 112, 3) := by decide +kernel
theorem dX5_walkTo_64 : decode cX5_walkTo 64 = .ok (.invokevirtual 151, 3) := by decide +kernel
theorem dX5_walkTo_67 : decode cX5_walkTo 67 = .ok (.ifCond .ne 5, 3) := by decide +kernel
theorem dX5_walkTo_70 : decode cX5_walkTo 70 = .ok (.iconst 0, 1) := by decide +kernel
theorem dX5_walkTo_71 : decode cX5_walkTo 71 = .ok (.ireturn, 1) := by decide +kernel
theorem dX5_walkTo_72 : decode cX5_walkTo 72 = .ok (.iinc 5 1, 3) := by decide +kernel
theorem dX5_walkTo_75 : decode cX5_walkTo 75 = .ok (.goto (-45), 3) := by decide +kernel
theorem dX5_walkTo_78 : decode cX5_walkTo 78 = .ok (.aload_n 3, 1) := by decide +kernel
theorem dX5_walkTo_79 : decode cX5_walkTo 79 = .ok (.iload_n 2, 1) := by decide +kernel
theorem dX5_walkTo_80 : decode cX5_walkTo 80 = .ok (.putfield 86, 3) := by decide +kernel
theorem dX5_walkTo_83 : decode cX5_walkTo 83 = .ok (.aload_n 3, 1) := by decide +kernel
theorem dX5_walkTo_84 : decode cX5_walkTo 84 = .ok (.dup, 1) := by decide +kernel
theorem dX5_walkTo_85 : decode cX5_walkTo 85 = .ok (.getfield 112, 3) := by decide +kernel
theorem dX5_walkTo_88 : decode cX5_walkTo 88 = .ok (.iload 4, 2) := by decide +kernel
theorem dX5_walkTo_90 : decode cX5_walkTo 90 = .ok (.iadd, 1) := by decide +kernel
theorem dX5_walkTo_91 : decode cX5_walkTo 91 = .ok (.putfield 112, 3) := by decide +kernel
theorem dX5_walkTo_94 : decode cX5_walkTo 94 = .ok (.iconst 1, 1) := by decide +kernel
theorem dX5_walkTo_95 : decode cX5_walkTo 95 = .ok (.ireturn, 1) := by decide +kernel
theorem dX5_layDown_0 : decode cX5_layDown 0 = .ok (.aload_n 0, 1) := by decide +kernel
theorem dX5_layDown_1 : decode cX5_layDown 1 = .ok (.getfield 19, 3) := by decide +kernel
theorem dX5_layDown_4 : decode cX5_layDown 4 = .ok (.iload_n 2, 1) := by decide +kernel
theorem dX5_layDown_5 : decode cX5_layDown 5 = .ok (.aaload, 1) := by decide +kernel
theorem dX5_layDown_6 : decode cX5_layDown 6 = .ok (.getfield 97, 3) := by decide +kernel
theorem dX5_layDown_9 : decode cX5_layDown 9 = .ok (.bipush 10, 2) := by decide +kernel
theorem dX5_layDown_11 : decode cX5_layDown 11 = .ok (.iload_n 1, 1) := by decide +kernel
theorem dX5_layDown_12 : decode cX5_layDown 12 = .ok (.iadd, 1) := by decide +kernel
theorem dX5_layDown_13 : decode cX5_layDown 13 = .ok (.if_icmp .eq 5, 3) := by decide +kernel
theorem dX5_layDown_16 : decode cX5_layDown 16 = .ok (.iconst 0, 1) := by decide +kernel
theorem dX5_layDown_17 : decode cX5_layDown 17 = .ok (.ireturn, 1) := by decide +kernel
theorem dX5_layDown_18 : decode cX5_layDown 18 = .ok (.aload_n 0, 1) := by decide +kernel
theorem dX5_layDown_19 : decode cX5_layDown 19 = .ok (.getfield 19, 3) := by decide +kernel
theorem dX5_layDown_22 : decode cX5_layDown 22 = .ok (.iload_n 2, 1) := by decide +kernel
theorem dX5_layDown_23 : decode cX5_layDown 23 = .ok (.aaload, 1) := by decide +kernel
theorem dX5_layDown_24 : decode cX5_layDown 24 = .ok (.aload_n 0, 1) := by decide +kernel
theorem dX5_layDown_25 : decode cX5_layDown 25 = .ok (.getfield 11, 3) := by decide +kernel
theorem dX5_layDown_28 : decode cX5_layDown 28 = .ok (.iload_n 1, 1) := by decide +kernel
theorem dX5_layDown_29 : decode cX5_layDown 29 = .ok (.aaload, 1) := by decide +kernel
theorem dX5_layDown_30 : decode cX5_layDown 30 = .ok (.getfield 86, 3) := by decide +kernel
theorem dX5_layDown_33 : decode cX5_layDown 33 = .ok (.putfield 97, 3) := by decide +kernel
theorem dX5_layDown_36 : decode cX5_layDown 36 = .ok (.aload_n 0, 1) := by decide +kernel
theorem dX5_layDown_37 : decode cX5_layDown 37 = .ok (.getfield 19, 3) := by decide +kernel
theorem dX5_layDown_40 : decode cX5_layDown 40 = .ok (.iload_n 2, 1) := by decide +kernel
theorem dX5_layDown_41 : decode cX5_layDown 41 = .ok (.aaload, 1) := by decide +kernel
theorem dX5_layDown_42 : decode cX5_layDown 42 = .ok (.aload_n 0, 1) := by decide +kernel
theorem dX5_layDown_43 : decode cX5_layDown 43 = .ok (.getfield 11, 3) := by decide +kernel
theorem dX5_layDown_46 : decode cX5_layDown 46 = .ok (.iload_n 1, 1) := by decide +kernel
theorem dX5_layDown_47 : decode cX5_layDown 47 = .ok (.aaload, 1) := by decide +kernel
theorem dX5_layDown_48 : decode cX5_layDown 48 = .ok (.getfield 112, 3) := by decide +kernel
theorem dX5_layDown_51 : decode cX5_layDown 51 = .ok (.putfield 133, 3) := by decide +kernel
theorem dX5_layDown_54 : decode cX5_layDown 54 = .ok (.iconst 1, 1) := by decide +kernel
theorem dX5_layDown_55 : decode cX5_layDown 55 = .ok (.ireturn, 1) := by decide +kernel
theorem dX5_handOver_0 : decode cX5_handOver 0 = .ok (.aload_n 0, 1) := by decide +kernel
theorem dX5_handOver_1 : decode cX5_handOver 1 = .ok (.getfield 11, 3) := by decide +kernel
theorem dX5_handOver_4 : decode cX5_handOver 4 = .ok (.iload_n 1, 1) := by decide +kernel
theorem dX5_handOver_5 : decode cX5_handOver 5 = .ok (.aaload, 1) := by decide +kernel
theorem dX5_handOver_6 : decode cX5_handOver 6 = .ok (.astore 4, 2) := by decide +kernel
theorem dX5_handOver_8 : decode cX5_handOver 8 = .ok (.aload_n 0, 1) := by decide +kernel
theorem dX5_handOver_9 : decode cX5_handOver 9 = .ok (.getfield 11, 3) := by decide +kernel
theorem dX5_handOver_12 : decode cX5_handOver 12 = .ok (.iload_n 2, 1) := by decide +kernel
theorem dX5_handOver_13 : decode cX5_handOver 13 = .ok (.aaload, 1) := by decide +kernel
theorem dX5_handOver_14 : decode cX5_handOver 14 = .ok (.astore 5, 2) := by decide +kernel
theorem dX5_handOver_16 : decode cX5_handOver 16 = .ok (.aload 4, 2) := by decide +kernel
theorem dX5_handOver_18 : decode cX5_handOver 18 = .ok (.getfield 112, 3) := by decide +kernel
theorem dX5_handOver_21 : decode cX5_handOver 21 = .ok (.aload 5, 2) := by decide +kernel
theorem dX5_handOver_23 : decode cX5_handOver 23 = .ok (.getfield 112, 3) := by decide +kernel
theorem dX5_handOver_26 : decode cX5_handOver 26 = .ok (.invokestatic 80, 3) := by decide +kernel
theorem dX5_handOver_29 : decode cX5_handOver 29 = .ok (.istore 6, 2) := by decide +kernel
theorem dX5_handOver_31 : decode cX5_handOver 31 = .ok (.aload_n 0, 1) := by decide +kernel
theorem dX5_handOver_32 : decode cX5_handOver 32 = .ok (.getfield 19, 3) := by decide +kernel
theorem dX5_handOver_35 : decode cX5_handOver 35 = .ok (.iload_n 3, 1) := by decide +kernel
theorem dX5_handOver_36 : decode cX5_handOver 36 = .ok (.aaload, 1) := by decide +kernel
theorem dX5_handOver_37 : decode cX5_handOver 37 = .ok (.getfield 97, 3) := by decide +kernel
theorem dX5_handOver_40 : decode cX5_handOver 40 = .ok (.bipush 10, 2) := by decide +kernel
theorem dX5_handOver_42 : decode cX5_handOver 42 = .ok (.iload_n 1, 1) := by decide +kernel
theorem dX5_handOver_43 : decode cX5_handOver 43 = .ok (.iadd, 1) := by decide +kernel
theorem dX5_handOver_44 : decode cX5_handOver 44 = .ok (.if_icmp .ne 36, 3) := by decide +kernel
theorem dX5_handOver_47 : decode cX5_handOver 47 = .ok (.aload 4, 2) := by decide +kernel
theorem dX5_handOver_49 : decode cX5_handOver 49 = .ok (.getfield 86, 3) := by decide +kernel
theorem dX5_handOver_52 : decode cX5_handOver 52 = .ok (.aload 5, 2) := by decide +kernel
theorem dX5_handOver_54 : decode cX5_handOver 54 = .ok (.getfield 86, 3) := by decide +kernel
theorem dX5_handOver_57 : decode cX5_handOver 57 = .ok (.if_icmp .ne 23, 3) := by decide +kernel
theorem dX5_handOver_60 : decode cX5_handOver 60 = .ok (.aload_n 0, 1) := by decide +kernel
theorem dX5_handOver_61 : decode cX5_handOver 61 = .ok (.iload_n 2, 1) := by decide +kernel
theorem dX5_handOver_62 : decode cX5_handOver 62 = .ok (.iload_n 3, 1) := by decide +kernel
theorem dX5_handOver_63 : decode cX5_handOver 63 = .ok (.iload 6, 2) := by decide +kernel
theorem dX5_handOver_65 : decode cX5_handOver 65 = .ok (.invokevirtual 151, 3) := by decide +kernel
theorem dX5_handOver_68 : decode cX5_handOver 68 = .ok (.ifCond .eq 12, 3) := by decide +kernel
theorem dX5_handOver_71 : decode cX5_handOver 71 = .ok (.aload_n 0, 1) := by decide +kernel
theorem dX5_handOver_72 : decode cX5_handOver 72 = .ok (.iload_n 2, 1) := by decide +kernel
theorem dX5_handOver_73 : decode cX5_handOver 73 = .ok (.iload_n 3, 1) := by decide +kernel
theorem dX5_handOver_74 : decode cX5_handOver 74 = .ok (.invokevirtual 154, 3) := by decide +kernel
theorem dX5_handOver_77 : decode cX5_handOver 77 = .ok (.ifCond .ne 5, 3) := by decide +kernel
theorem dX5_handOver_80 : decode cX5_handOver 80 = .ok (.iconst 0, 1) := by decide +kernel
theorem dX5_handOver_81 : decode cX5_handOver 81 = .ok (.ireturn, 1) := by decide +kernel
theorem dX5_handOver_82 : decode cX5_handOver 82 = .ok (.aload 4, 2) := by decide +kernel
theorem dX5_handOver_84 : decode cX5_handOver 84 = .ok (.iload 6, 2) := by decide +kernel
theorem dX5_handOver_86 : decode cX5_handOver 86 = .ok (.putfield 112, 3) := by decide +kernel
theorem dX5_handOver_89 : decode cX5_handOver 89 = .ok (.aload 5, 2) := by decide +kernel
theorem dX5_handOver_91 : decode cX5_handOver 91 = .ok (.iload 6, 2) := by decide +kernel
theorem dX5_handOver_93 : decode cX5_handOver 93 = .ok (.putfield 112, 3) := by decide +kernel
theorem dX5_handOver_96 : decode cX5_handOver 96 = .ok (.aload_n 0, 1) := by decide +kernel
theorem dX5_handOver_97 : decode cX5_handOver 97 = .ok (.iload_n 2, 1) := by decide +kernel
theorem dX5_handOver_98 : decode cX5_handOver 98 = .ok (.iload_n 3, 1) := by decide +kernel
theorem dX5_handOver_99 : decode cX5_handOver 99 = .ok (.invokevirtual 157, 3) := by decide +kernel
theorem dX5_handOver_102 : decode cX5_handOver 102 = .ok (.iconst 1, 1) := by decide +kernel
theorem dX5_handOver_103 : decode cX5_handOver 103 = .ok (.ireturn, 1) := by decide +kernel
theorem dX5_roundMinute_0 : decode cX5_roundMinute 0 = .ok (.aload_n 0, 1) := by decide +kernel
theorem dX5_roundMinute_1 : decode cX5_roundMinute 1 = .ok (.getfield 11, 3) := by decide +kernel
theorem dX5_roundMinute_4 : decode cX5_roundMinute 4 = .ok (.iload_n 1, 1) := by decide +kernel
theorem dX5_roundMinute_5 : decode cX5_roundMinute 5 = .ok (.aaload, 1) := by decide +kernel
theorem dX5_roundMinute_6 : decode cX5_roundMinute 6 = .ok (.astore_n 3, 1) := by decide +kernel
theorem dX5_roundMinute_7 : decode cX5_roundMinute 7 = .ok (.aload_n 0, 1) := by decide +kernel
theorem dX5_roundMinute_8 : decode cX5_roundMinute 8 = .ok (.getfield 19, 3) := by decide +kernel
theorem dX5_roundMinute_11 : decode cX5_roundMinute 11 = .ok (.iload_n 2, 1) := by decide +kernel
theorem dX5_roundMinute_12 : decode cX5_roundMinute 12 = .ok (.aaload, 1) := by decide +kernel
theorem dX5_roundMinute_13 : decode cX5_roundMinute 13 = .ok (.astore 4, 2) := by decide +kernel
theorem dX5_roundMinute_15 : decode cX5_roundMinute 15 = .ok (.aload_n 0, 1) := by decide +kernel
theorem dX5_roundMinute_16 : decode cX5_roundMinute 16 = .ok (.aload_n 3, 1) := by decide +kernel
theorem dX5_roundMinute_17 : decode cX5_roundMinute 17 = .ok (.getfield 89, 3) := by decide +kernel
theorem dX5_roundMinute_20 : decode cX5_roundMinute 20 = .ok (.aload 4, 2) := by decide +kernel
theorem dX5_roundMinute_22 : decode cX5_roundMinute 22 = .ok (.getfield 95, 3) := by decide +kernel
theorem dX5_roundMinute_25 : decode cX5_roundMinute 25 = .ok (.invokevirtual 161, 3) := by decide +kernel
theorem dX5_roundMinute_28 : decode cX5_roundMinute 28 = .ok (.istore 5, 2) := by decide +kernel
theorem dX5_roundMinute_30 : decode cX5_roundMinute 30 = .ok (.aload_n 0, 1) := by decide +kernel
theorem dX5_roundMinute_31 : decode cX5_roundMinute 31 = .ok (.aload 4, 2) := by decide +kernel
theorem dX5_roundMinute_33 : decode cX5_roundMinute 33 = .ok (.getfield 95, 3) := by decide +kernel
theorem dX5_roundMinute_36 : decode cX5_roundMinute 36 = .ok (.aload 4, 2) := by decide +kernel
theorem dX5_roundMinute_38 : decode cX5_roundMinute 38 = .ok (.getfield 96, 3) := by decide +kernel
theorem dX5_roundMinute_41 : decode cX5_roundMinute 41 = .ok (.invokevirtual 161, 3) := by decide +kernel
theorem dX5_roundMinute_44 : decode cX5_roundMinute 44 = .ok (.istore 6, 2) := by decide +kernel
theorem dX5_roundMinute_46 : decode cX5_roundMinute 46 = .ok (.iload 5, 2) := by decide +kernel
theorem dX5_roundMinute_48 : decode cX5_roundMinute 48 = .ok (.ldc 139, 2) := by decide +kernel
theorem dX5_roundMinute_50 : decode cX5_roundMinute 50 = .ok (.if_icmp .ge 28, 3) := by decide +kernel
theorem dX5_roundMinute_53 : decode cX5_roundMinute 53 = .ok (.iload 6, 2) := by decide +kernel
theorem dX5_roundMinute_55 : decode cX5_roundMinute 55 = .ok (.ldc 139, 2) := by decide +kernel
theorem dX5_roundMinute_57 : decode cX5_roundMinute 57 = .ok (.if_icmp .ge 21, 3) := by decide +kernel
theorem dX5_roundMinute_60 : decode cX5_roundMinute 60 = .ok (.aload_n 0, 1) := by decide +kernel
theorem dX5_roundMinute_61 : decode cX5_roundMinute 61 = .ok (.aload 4, 2) := by decide +kernel
theorem dX5_roundMinute_63 : decode cX5_roundMinute 63 = .ok (.getfield 96, 3) := by decide +kernel
theorem dX5_roundMinute_66 : decode cX5_roundMinute 66 = .ok (.aload_n 3, 1) := by decide +kernel
theorem dX5_roundMinute_67 : decode cX5_roundMinute 67 = .ok (.getfield 92, 3) := by decide +kernel
theorem dX5_roundMinute_70 : decode cX5_roundMinute 70 = .ok (.invokevirtual 161, 3) := by decide +kernel
theorem dX5_roundMinute_73 : decode cX5_roundMinute 73 = .ok (.ldc 139, 2) := by decide +kernel
theorem dX5_roundMinute_75 : decode cX5_roundMinute 75 = .ok (.if_icmp .lt 6, 3) := by decide +kernel
theorem dX5_roundMinute_78 : decode cX5_roundMinute 78 = .ok (.bipush (-9), 2) := by decide +kernel
theorem dX5_roundMinute_80 : decode cX5_roundMinute 80 = .ok (.ireturn, 1) := by decide +kernel
theorem dX5_roundMinute_81 : decode cX5_roundMinute 81 = .ok (.aload_n 3, 1) := by decide +kernel
theorem dX5_roundMinute_82 : decode cX5_roundMinute 82 = .ok (.getfield 103, 3) := by decide +kernel
theorem dX5_roundMinute_85 : decode cX5_roundMinute 85 = .ok (.iload 5, 2) := by decide +kernel
theorem dX5_roundMinute_87 : decode cX5_roundMinute 87 = .ok (.iadd, 1) := by decide +kernel
theorem dX5_roundMinute_88 : decode cX5_roundMinute 88 = .ok (.istore 7, 2) := by decide +kernel
theorem dX5_roundMinute_90 : decode cX5_roundMinute 90 = .ok (.aload_n 0, 1) := by decide +kernel
theorem dX5_roundMinute_91 : decode cX5_roundMinute 91 = .ok (.iload_n 1, 1) := by decide +kernel
theorem dX5_roundMinute_92 : decode cX5_roundMinute 92 = .ok (.iload_n 2, 1) := by decide +kernel
theorem dX5_roundMinute_93 : decode cX5_roundMinute 93 = .ok (.invokevirtual 143, 3) := by decide +kernel
theorem dX5_roundMinute_96 : decode cX5_roundMinute 96 = .ok (.ifCond .eq 20, 3) := by decide +kernel
theorem dX5_roundMinute_99 : decode cX5_roundMinute 99 = .ok (.aload_n 0, 1) := by decide +kernel
theorem dX5_roundMinute_100 : decode cX5_roundMinute 100 = .ok (.aload_n 0, 1) := by decide +kernel
theorem dX5_roundMinute_101 : decode cX5_roundMinute 101 = .ok (.getfield 58, 3) := by decide +kernel
theorem dX5_roundMinute_104 : decode cX5_roundMinute 104 = .ok (.iload_n 1, 1) := by decide +kernel
theorem dX5_roundMinute_105 : decode cX5_roundMinute 105 = .ok (.iload_n 2, 1) := by decide +kernel
theorem dX5_roundMinute_106 : decode cX5_roundMinute 106 = .ok (.iload 7, 2) := by decide +kernel
theorem dX5_roundMinute_108 : decode cX5_roundMinute 108 = .ok (.bipush (-9), 2) := by decide +kernel
theorem dX5_roundMinute_110 : decode cX5_roundMinute 110 = .ok (.invokevirtual 147, 3) := by decide +kernel
theorem dX5_roundMinute_113 : decode cX5_roundMinute 113 = .ok (.ifCond .ne 6, 3) := by decide +kernel
theorem dX5_roundMinute_116 : decode cX5_roundMinute 116 = .ok (.bipush (-9), 2) := by decide +kernel
theorem dX5_roundMinute_118 : decode cX5_roundMinute 118 = .ok (.ireturn, 1) := by decide +kernel
theorem dX5_roundMinute_119 : decode cX5_roundMinute 119 = .ok (.iload 7, 2) := by decide +kernel
theorem dX5_roundMinute_121 : decode cX5_roundMinute 121 = .ok (.iload 6, 2) := by decide +kernel
theorem dX5_roundMinute_123 : decode cX5_roundMinute 123 = .ok (.iadd, 1) := by decide +kernel
theorem dX5_roundMinute_124 : decode cX5_roundMinute 124 = .ok (.istore 8, 2) := by decide +kernel
theorem dX5_roundMinute_126 : decode cX5_roundMinute 126 = .ok (.iload 8, 2) := by decide +kernel
theorem dX5_roundMinute_128 : decode cX5_roundMinute 128 = .ok (.aload 4, 2) := by decide +kernel
theorem dX5_roundMinute_130 : decode cX5_roundMinute 130 = .ok (.getfield 127, 3) := by decide +kernel
theorem dX5_roundMinute_133 : decode cX5_roundMinute 133 = .ok (.if_icmp .le 8, 3) := by decide +kernel
theorem dX5_roundMinute_136 : decode cX5_roundMinute 136 = .ok (.bipush (-9), 2) := by decide +kernel
theorem dX5_roundMinute_138 : decode cX5_roundMinute 138 = .ok (.goto 5, 3) := by decide +kernel
theorem dX5_roundMinute_141 : decode cX5_roundMinute 141 = .ok (.iload 8, 2) := by decide +kernel
theorem dX5_roundMinute_143 : decode cX5_roundMinute 143 = .ok (.ireturn, 1) := by decide +kernel
theorem dX5_roundMore_0 : decode cX5_roundMore 0 = .ok (.aload_n 0, 1) := by decide +kernel
theorem dX5_roundMore_1 : decode cX5_roundMore 1 = .ok (.getfield 11, 3) := by decide +kernel
theorem dX5_roundMore_4 : decode cX5_roundMore 4 = .ok (.iload_n 1, 1) := by decide +kernel
theorem dX5_roundMore_5 : decode cX5_roundMore 5 = .ok (.aaload, 1) := by decide +kernel
theorem dX5_roundMore_6 : decode cX5_roundMore 6 = .ok (.astore_n 3, 1) := by decide +kernel
theorem dX5_roundMore_7 : decode cX5_roundMore 7 = .ok (.aload_n 0, 1) := by decide +kernel
theorem dX5_roundMore_8 : decode cX5_roundMore 8 = .ok (.getfield 19, 3) := by decide +kernel
theorem dX5_roundMore_11 : decode cX5_roundMore 11 = .ok (.iload_n 2, 1) := by decide +kernel
theorem dX5_roundMore_12 : decode cX5_roundMore 12 = .ok (.aaload, 1) := by decide +kernel
theorem dX5_roundMore_13 : decode cX5_roundMore 13 = .ok (.astore 4, 2) := by decide +kernel
theorem dX5_roundMore_15 : decode cX5_roundMore 15 = .ok (.aload_n 0, 1) := by decide +kernel
theorem dX5_roundMore_16 : decode cX5_roundMore 16 = .ok (.aload_n 3, 1) := by decide +kernel
theorem dX5_roundMore_17 : decode cX5_roundMore 17 = .ok (.getfield 89, 3) := by decide +kernel
theorem dX5_roundMore_20 : decode cX5_roundMore 20 = .ok (.aload 4, 2) := by decide +kernel
theorem dX5_roundMore_22 : decode cX5_roundMore 22 = .ok (.getfield 95, 3) := by decide +kernel
theorem dX5_roundMore_25 : decode cX5_roundMore 25 = .ok (.invokevirtual 161, 3) := by decide +kernel
theorem dX5_roundMore_28 : decode cX5_roundMore 28 = .ok (.aload_n 0, 1) := by decide +kernel
theorem dX5_roundMore_29 : decode cX5_roundMore 29 = .ok (.aload 4, 2) := by decide +kernel
theorem dX5_roundMore_31 : decode cX5_roundMore 31 = .ok (.getfield 95, 3) := by decide +kernel
theorem dX5_roundMore_34 : decode cX5_roundMore 34 = .ok (.aload 4, 2) := by decide +kernel
theorem dX5_roundMore_36 : decode cX5_roundMore 36 = .ok (.getfield 96, 3) := by decide +kernel
theorem dX5_roundMore_39 : decode cX5_roundMore 39 = .ok (.invokevirtual 161, 3) := by decide +kernel
theorem dX5_roundMore_42 : decode cX5_roundMore 42 = .ok (.iadd, 1) := by decide +kernel
theorem dX5_roundMore_43 : decode cX5_roundMore 43 = .ok (.aload_n 0, 1) := by decide +kernel
theorem dX5_roundMore_44 : decode cX5_roundMore 44 = .ok (.aload 4, 2) := by decide +kernel
theorem dX5_roundMore_46 : decode cX5_roundMore 46 = .ok (.getfield 96, 3) := by decide +kernel
theorem dX5_roundMore_49 : decode cX5_roundMore 49 = .ok (.aload_n 3, 1) := by decide +kernel
theorem dX5_roundMore_50 : decode cX5_roundMore 50 = .ok (.getfield 92, 3) := by decide +kernel
theorem dX5_roundMore_53 : decode cX5_roundMore 53 = .ok (.invokevirtual 161, 3) := by decide +kernel
theorem dX5_roundMore_56 : decode cX5_roundMore 56 = .ok (.iadd, 1) := by decide +kernel
theorem dX5_roundMore_57 : decode cX5_roundMore 57 = .ok (.aload_n 0, 1) := by decide +kernel
theorem dX5_roundMore_58 : decode cX5_roundMore 58 = .ok (.aload_n 3, 1) := by decide +kernel
theorem dX5_roundMore_59 : decode cX5_roundMore 59 = .ok (.getfield 89, 3) := by decide +kernel
theorem dX5_roundMore_62 : decode cX5_roundMore 62 = .ok (.aload_n 3, 1) := by decide +kernel
theorem dX5_roundMore_63 : decode cX5_roundMore 63 = .ok (.getfield 92, 3) := by decide +kernel
theorem dX5_roundMore_66 : decode cX5_roundMore 66 = .ok (.invokevirtual 161, 3) := by decide +kernel
theorem dX5_roundMore_69 : decode cX5_roundMore 69 = .ok (.isub, 1) := by decide +kernel
theorem dX5_roundMore_70 : decode cX5_roundMore 70 = .ok (.ireturn, 1) := by decide +kernel
theorem dX5_strangerCanBring_0 : decode cX5_strangerCanBring 0 = .ok (.aload_n 0, 1) := by decide +kernel
theorem dX5_strangerCanBring_1 : decode cX5_strangerCanBring 1 = .ok (.getfield 19, 3) := by decide +kernel
theorem dX5_strangerCanBring_4 : decode cX5_strangerCanBring 4 = .ok (.iload_n 1, 1) := by decide +kernel
theorem dX5_strangerCanBring_5 : decode cX5_strangerCanBring 5 = .ok (.aaload, 1) := by decide +kernel
theorem dX5_strangerCanBring_6 : decode cX5_strangerCanBring 6 = .ok (.astore_n 2, 1) := by decide +kernel
theorem dX5_strangerCanBring_7 : decode cX5_strangerCanBring 7 = .ok (.aload_n 0, 1) := by decide +kernel
theorem dX5_strangerCanBring_8 : decode cX5_strangerCanBring 8 = .ok (.iconst 0, 1) := by decide +kernel
theorem dX5_strangerCanBring_9 : decode cX5_strangerCanBring 9 = .ok (.aload_n 2, 1) := by decide +kernel
theorem dX5_strangerCanBring_10 : decode cX5_strangerCanBring 10 = .ok (.getfield 95, 3) := by decide +kernel
theorem dX5_strangerCanBring_13 : decode cX5_strangerCanBring 13 = .ok (.invokevirtual 161, 3) := by decide +kernel
theorem dX5_strangerCanBring_16 : decode cX5_strangerCanBring 16 = .ok (.aload_n 0, 1) := by decide +kernel
theorem dX5_strangerCanBring_17 : decode cX5_strangerCanBring 17 = .ok (.aload_n 2, 1) := by decide +kernel
theorem dX5_strangerCanBring_18 : decode cX5_strangerCanBring 18 = .ok (.getfield 95, 3) := by decide +kernel
theorem dX5_strangerCanBring_21 : decode cX5_strangerCanBring 21 = .ok (.aload_n 2, 1) := by decide +kernel
theorem dX5_strangerCanBring_22 : decode cX5_strangerCanBring 22 = .ok (.getfield 96, 3) := by decide +kernel
theorem dX5_strangerCanBring_25 : decode cX5_strangerCanBring 25 = .ok (.invokevirtual 161, 3) := by decide +kernel
theorem dX5_strangerCanBring_28 : decode cX5_strangerCanBring 28 = .ok (.iadd, 1) := by decide +kernel
theorem dX5_strangerCanBring_29 : decode cX5_strangerCanBring 29 = .ok (.aload_n 2, 1) := by decide +kernel
theorem dX5_strangerCanBring_30 : decode cX5_strangerCanBring 30 = .ok (.getfield 127, 3) := by decide +kernel
theorem dX5_strangerCanBring_33 : decode cX5_strangerCanBring 33 = .ok (.if_icmp .gt 7, 3) := by decide +kernel
theorem dX5_strangerCanBring_36 : decode cX5_strangerCanBring 36 = .ok (.iconst 1, 1) := by decide +kernel
theorem dX5_strangerCanBring_37 : decode cX5_strangerCanBring 37 = .ok (.goto 4, 3) := by decide +kernel
theorem dX5_strangerCanBring_40 : decode cX5_strangerCanBring 40 = .ok (.iconst 0, 1) := by decide +kernel
theorem dX5_strangerCanBring_41 : decode cX5_strangerCanBring 41 = .ok (.ireturn, 1) := by decide +kernel
theorem dX6_init_0 : decode cX6_init 0 = .ok (.aload_n 0, 1) := by decide +kernel
theorem dX6_init_1 : decode cX6_init 1 = .ok (.invokespecial 3, 3) := by decide +kernel
theorem dX6_init_4 : decode cX6_init 4 = .ok (.aload_n 0, 1) := by decide +kernel
theorem dX6_init_5 : decode cX6_init 5 = .ok (.bipush 7, 2) := by decide +kernel
theorem dX6_init_7 : decode cX6_init 7 = .ok (.newarray .int, 2) := by decide +kernel
theorem dX6_init_9 : decode cX6_init 9 = .ok (.putfield 9, 3) := by decide +kernel
theorem dX6_init_12 : decode cX6_init 12 = .ok (.aload_n 0, 1) := by decide +kernel
theorem dX6_init_13 : decode cX6_init 13 = .ok (.bipush 7, 2) := by decide +kernel
theorem dX6_init_15 : decode cX6_init 15 = .ok (.newarray .int, 2) := by decide +kernel
theorem dX6_init_17 : decode cX6_init 17 = .ok (.putfield 15, 3) := by decide +kernel
theorem dX6_init_20 : decode cX6_init 20 = .ok (.return_, 1) := by decide +kernel
theorem dX6_lead_0 : decode cX6_lead 0 = .ok (.aload_n 0, 1) := by decide +kernel
theorem dX6_lead_1 : decode cX6_lead 1 = .ok (.iconst 0, 1) := by decide +kernel
theorem dX6_lead_2 : decode cX6_lead 2 = .ok (.putfield 18, 3) := by decide +kernel
theorem dX6_lead_5 : decode cX6_lead 5 = .ok (.aload_n 1, 1) := by decide +kernel
theorem dX6_lead_6 : decode cX6_lead 6 = .ok (.iload_n 2, 1) := by decide +kernel
theorem dX6_lead_7 : decode cX6_lead 7 = .ok (.iload_n 3, 1) := by decide +kernel
theorem dX6_lead_8 : decode cX6_lead 8 = .ok (.invokevirtual 22, 3) := by decide +kernel
theorem dX6_lead_11 : decode cX6_lead 11 = .ok (.ldc 28, 2) := by decide +kernel
theorem dX6_lead_13 : decode cX6_lead 13 = .ok (.if_icmp .lt 4, 3) := by decide +kernel
theorem dX6_lead_16 : decode cX6_lead 16 = .ok (.return_, 1) := by decide +kernel
theorem dX6_lead_17 : decode cX6_lead 17 = .ok (.iload_n 2, 1) := by decide +kernel
theorem dX6_lead_18 : decode cX6_lead 18 = .ok (.istore 5, 2) := by decide +kernel
theorem dX6_lead_20 : decode cX6_lead 20 = .ok (.iload 4, 2) := by decide +kernel
theorem dX6_lead_22 : decode cX6_lead 22 = .ok (.istore 6, 2) := by decide +kernel
theorem dX6_lead_24 : decode cX6_lead 24 = .ok (.aload_n 0, 1) := by decide +kernel
theorem dX6_lead_25 : decode cX6_lead 25 = .ok (.iload 5, 2) := by decide +kernel
theorem dX6_lead_27 : decode cX6_lead 27 = .ok (.iload 6, 2) := by decide +kernel
theorem dX6_lead_29 : decode cX6_lead 29 = .ok (.invokevirtual 29, 3) := by decide +kernel
theorem dX6_lead_32 : decode cX6_lead 32 = .ok (.iconst 1, 1) := by decide +kernel
theorem dX6_lead_33 : decode cX6_lead 33 = .ok (.istore 7, 2) := by decide +kernel
theorem dX6_lead_35 : decode cX6_lead 35 = .ok (.iload 7, 2) := by decide +kernel
theorem dX6_lead_37 : decode cX6_lead 37 = .ok (.bipush 7, 2) := by decide +kernel
theorem dX6_lead_39 : decode cX6_lead 39 = .ok (.if_icmp .ge 50, 3) := by decide +kernel
theorem dX6_lead_42 : decode cX6_lead 42 = .ok (.iload 5, 2) := by decide +kernel
theorem dX6_lead_44 : decode cX6_lead 44 = .ok (.iload_n 3, 1) := by decide +kernel
theorem dX6_lead_45 : decode cX6_lead 45 = .ok (.if_icmp .eq 44, 3) := by decide +kernel
theorem dX6_lead_48 : decode cX6_lead 48 = .ok (.aload_n 0, 1) := by decide +kernel
theorem dX6_lead_49 : decode cX6_lead 49 = .ok (.aload_n 1, 1) := by decide +kernel
theorem dX6_lead_50 : decode cX6_lead 50 = .ok (.iload 5, 2) := by decide +kernel
theorem dX6_lead_52 : decode cX6_lead 52 = .ok (.iload_n 3, 1) := by decide +kernel
theorem dX6_lead_53 : decode cX6_lead 53 = .ok (.invokevirtual 33, 3) := by decide +kernel
theorem dX6_lead_56 : decode cX6_lead 56 = .ok (.istore 8, 2) := by decide +kernel
theorem dX6_lead_58 : decode cX6_lead 58 = .ok (.iload 6, 2) := by decide +kernel
theorem dX6_lead_60 : decode cX6_lead 60 = .ok (.aload_n 1, 1) := by decide +kernel
theorem dX6_lead_61 : decode cX6_lead 61 = .ok (.iload 5, 2) := by decide +kernel
theorem dX6_lead_63 : decode cX6_lead 63 = .ok (.iload 8, 2) := by decide +kernel
theorem dX6_lead_65 : decode cX6_lead 65 = .ok (.invokevirtual 37, 3) := by decide +kernel
theorem dX6_lead_68 : decode cX6_lead 68 = .ok (.iadd, 1) := by decide +kernel
theorem dX6_lead_69 : decode cX6_lead 69 = .ok (.istore 6, 2) := by decide +kernel
theorem dX6_lead_71 : decode cX6_lead 71 = .ok (.iload 8, 2) := by decide +kernel
theorem dX6_lead_73 : decode cX6_lead 73 = .ok (.istore 5, 2) := by decide +kernel
theorem dX6_lead_75 : decode cX6_lead 75 = .ok (.aload_n 0, 1) := by decide +kernel
theorem dX6_lead_76 : decode cX6_lead 76 = .ok (.iload 5, 2) := by decide +kernel
theorem dX6_lead_78 : decode cX6_lead 78 = .ok (.iload 6, 2) := by decide +kernel
theorem dX6_lead_80 : decode cX6_lead 80 = .ok (.invokevirtual 29, 3) := by decide +kernel
theorem dX6_lead_83 : decode cX6_lead 83 = .ok (.iinc 7 1, 3) := by decide +kernel
theorem dX6_lead_86 : decode cX6_lead 86 = .ok (.goto (-51), 3) := by decide +kernel
theorem dX6_lead_89 : decode cX6_lead 89 = .ok (.return_, 1) := by decide +kernel
theorem dX6_append_0 : decode cX6_append 0 = .ok (.aload_n 0, 1) := by decide +kernel
theorem dX6_append_1 : decode cX6_append 1 = .ok (.getfield 18, 3) := by decide +kernel
theorem dX6_append_4 : decode cX6_append 4 = .ok (.bipush 7, 2) := by decide +kernel
theorem dX6_append_6 : decode cX6_append 6 = .ok (.if_icmp .ge 33, 3) := by decide +kernel
theorem dX6_append_9 : decode cX6_append 9 = .ok (.aload_n 0, 1) := by decide +kernel
theorem dX6_append_10 : decode cX6_append 10 = .ok (.getfield 9, 3) := by decide +kernel
theorem dX6_append_13 : decode cX6_append 13 = .ok (.aload_n 0, 1) := by decide +kernel
theorem dX6_append_14 : decode cX6_append 14 = .ok (.getfield 18, 3) := by decide +kernel
theorem dX6_append_17 : decode cX6_append 17 = .ok (.iload_n 1, 1) := by decide +kernel
theorem dX6_append_18 : decode cX6_append 18 = .ok (.iastore, 1) := by decide +kernel
theorem dX6_append_19 : decode cX6_append 19 = .ok (.aload_n 0, 1) := by decide +kernel
theorem dX6_append_20 : decode cX6_append 20 = .ok (.getfield 15, 3) := by decide +kernel
theorem dX6_append_23 : decode cX6_append 23 = .ok (.aload_n 0, 1) := by decide +kernel
theorem dX6_append_24 : decode cX6_append 24 = .ok (.getfield 18, 3) := by decide +kernel
theorem dX6_append_27 : decode cX6_append 27 = .ok (.iload_n 2, 1) := by decide +kernel
theorem dX6_append_28 : decode cX6_append 28 = .ok (.iastore, 1) := by decide +kernel
theorem dX6_append_29 : decode cX6_append 29 = .ok (.aload_n 0, 1) := by decide +kernel
theorem dX6_append_30 : decode cX6_append 30 = .ok (.dup, 1) := by decide +kernel
theorem dX6_append_31 : decode cX6_append 31 = .ok (.getfield 18, 3) := by decide +kernel
theorem dX6_append_34 : decode cX6_append 34 = .ok (.iconst 1, 1) := by decide +kernel
theorem dX6_append_35 : decode cX6_append 35 = .ok (.iadd, 1) := by decide +kernel
theorem dX6_append_36 : decode cX6_append 36 = .ok (.putfield 18, 3) := by decide +kernel
theorem dX6_append_39 : decode cX6_append 39 = .ok (.return_, 1) := by decide +kernel
theorem dX6_nextToward_0 : decode cX6_nextToward 0 = .ok (.aload_n 1, 1) := by decide +kernel
theorem dX6_nextToward_1 : decode cX6_nextToward 1 = .ok (.iload_n 2, 1) := by decide +kernel
theorem dX6_nextToward_2 : decode cX6_nextToward 2 = .ok (.iload_n 3, 1) := by decide +kernel
theorem dX6_nextToward_3 : decode cX6_nextToward 3 = .ok (.invokevirtual 22, 3) := by decide +kernel
theorem dX6_nextToward_6 : decode cX6_nextToward 6 = .ok (.istore 4, 2) := by decide +kernel
theorem dX6_nextToward_8 : decode cX6_nextToward 8 = .ok (.iconst 0, 1) := by decide +kernel
theorem dX6_nextToward_9 : decode cX6_nextToward 9 = .ok (.istore 5, 2) := by decide +kernel
theorem dX6_nextToward_11 : decode cX6_nextToward 11 = .ok (.iload 5, 2) := by decide +kernel
theorem dX6_nextToward_13 : decode cX6_nextToward 13 = .ok (.aload_n 1, 1) := by decide +kernel
theorem dX6_nextToward_14 : decode cX6_nextToward 14 = .ok (.getfield 40, 3) := by decide +kernel
theorem dX6_nextToward_17 : decode cX6_nextToward 17 = .ok (.if_icmp .ge 41, 3) := by decide +kernel
theorem dX6_nextToward_20 : decode cX6_nextToward 20 = .ok (.aload_n 1, 1) := by decide +kernel
theorem dX6_nextToward_21 : decode cX6_nextToward 21 = .ok (.iload_n 2, 1) := by decide +kernel
theorem dX6_nextToward_22 : decode cX6_nextToward 22 = .ok (.iload 5, 2) := by decide +kernel
theorem dX6_nextToward_24 : decode cX6_nextToward 24 = .ok (.invokevirtual 37, 3) := by decide +kernel
theorem dX6_nextToward_27 : decode cX6_nextToward 27 = .ok (.istore 6, 2) := by decide +kernel
theorem dX6_nextToward_29 : decode cX6_nextToward 29 = .ok (.iload 6, 2) := by decide +kernel
theorem dX6_nextToward_31 : decode cX6_nextToward 31 = .ok (.ifCond .le 21, 3) := by decide +kernel
theorem dX6_nextToward_34 : decode cX6_nextToward 34 = .ok (.iload 6, 2) := by decide +kernel
theorem dX6_nextToward_36 : decode cX6_nextToward 36 = .ok (.aload_n 1, 1) := by decide +kernel
theorem dX6_nextToward_37 : decode cX6_nextToward 37 = .ok (.iload 5, 2) := by decide +kernel
theorem dX6_nextToward_39 : decode cX6_nextToward 39 = .ok (.iload_n 3, 1) := by decide +kernel
theorem dX6_nextToward_40 : decode cX6_nextToward 40 = .ok (.invokevirtual 22, 3) := by decide +kernel
theorem dX6_nextToward_43 : decode cX6_nextToward 43 = .ok (.iadd, 1) := by decide +kernel
theorem dX6_nextToward_44 : decode cX6_nextToward 44 = .ok (.iload 4, 2) := by decide +kernel
theorem dX6_nextToward_46 : decode cX6_nextToward 46 = .ok (.if_icmp .ne 6, 3) := by decide +kernel
theorem dX6_nextToward_49 : decode cX6_nextToward 49 = .ok (.iload 5, 2) := by decide +kernel
theorem dX6_nextToward_51 : decode cX6_nextToward 51 = .ok (.ireturn, 1) := by decide +kernel
theorem dX6_nextToward_52 : decode cX6_nextToward 52 = .ok (.iinc 5 1, 3) := by decide +kernel
theorem dX6_nextToward_55 : decode cX6_nextToward 55 = .ok (.goto (-44), 3) := by decide +kernel
theorem dX6_nextToward_58 : decode cX6_nextToward 58 = .ok (.iload_n 3, 1) := by decide +kernel
theorem dX6_nextToward_59 : decode cX6_nextToward 59 = .ok (.ireturn, 1) := by decide +kernel
theorem dX6_indexAt_0 : decode cX6_indexAt 0 = .ok (.iconst 0, 1) := by decide +kernel
theorem dX6_indexAt_1 : decode cX6_indexAt 1 = .ok (.istore_n 2, 1) := by decide +kernel
theorem dX6_indexAt_2 : decode cX6_indexAt 2 = .ok (.iload_n 2, 1) := by decide +kernel
theorem dX6_indexAt_3 : decode cX6_indexAt 3 = .ok (.aload_n 0, 1) := by decide +kernel
theorem dX6_indexAt_4 : decode cX6_indexAt 4 = .ok (.getfield 18, 3) := by decide +kernel
theorem dX6_indexAt_7 : decode cX6_indexAt 7 = .ok (.if_icmp .ge 21, 3) := by decide +kernel
theorem dX6_indexAt_10 : decode cX6_indexAt 10 = .ok (.aload_n 0, 1) := by decide +kernel
theorem dX6_indexAt_11 : decode cX6_indexAt 11 = .ok (.getfield 9, 3) := by decide +kernel
theorem dX6_indexAt_14 : decode cX6_indexAt 14 = .ok (.iload_n 2, 1) := by decide +kernel
theorem dX6_indexAt_15 : decode cX6_indexAt 15 = .ok (.iaload, 1) := by decide +kernel
theorem dX6_indexAt_16 : decode cX6_indexAt 16 = .ok (.iload_n 1, 1) := by decide +kernel
theorem dX6_indexAt_17 : decode cX6_indexAt 17 = .ok (.if_icmp .ne 5, 3) := by decide +kernel
theorem dX6_indexAt_20 : decode cX6_indexAt 20 = .ok (.iload_n 2, 1) := by decide +kernel
theorem dX6_indexAt_21 : decode cX6_indexAt 21 = .ok (.ireturn, 1) := by decide +kernel
theorem dX6_indexAt_22 : decode cX6_indexAt 22 = .ok (.iinc 2 1, 3) := by decide +kernel
theorem dX6_indexAt_25 : decode cX6_indexAt 25 = .ok (.goto (-23), 3) := by decide +kernel
theorem dX6_indexAt_28 : decode cX6_indexAt 28 = .ok (.iconst (-1), 1) := by decide +kernel
theorem dX6_indexAt_29 : decode cX6_indexAt 29 = .ok (.ireturn, 1) := by decide +kernel
theorem dX7_init_0 : decode cX7_init 0 = .ok (.aload_n 0, 1) := by decide +kernel
theorem dX7_init_1 : decode cX7_init 1 = .ok (.invokespecial 1, 3) := by decide +kernel
theorem dX7_init_4 : decode cX7_init 4 = .ok (.aload_n 0, 1) := by decide +kernel
theorem dX7_init_5 : decode cX7_init 5 = .ok (.new 7, 3) := by decide +kernel
theorem dX7_init_8 : decode cX7_init 8 = .ok (.dup, 1) := by decide +kernel
theorem dX7_init_9 : decode cX7_init 9 = .ok (.invokespecial 9, 3) := by decide +kernel
theorem dX7_init_12 : decode cX7_init 12 = .ok (.putfield 10, 3) := by decide +kernel
theorem dX7_init_15 : decode cX7_init 15 = .ok (.aload_n 0, 1) := by decide +kernel
theorem dX7_init_16 : decode cX7_init 16 = .ok (.new 7, 3) := by decide +kernel
theorem dX7_init_19 : decode cX7_init 19 = .ok (.dup, 1) := by decide +kernel
theorem dX7_init_20 : decode cX7_init 20 = .ok (.invokespecial 9, 3) := by decide +kernel
theorem dX7_init_23 : decode cX7_init 23 = .ok (.putfield 16, 3) := by decide +kernel
theorem dX7_init_26 : decode cX7_init 26 = .ok (.aload_n 0, 1) := by decide +kernel
theorem dX7_init_27 : decode cX7_init 27 = .ok (.new 7, 3) := by decide +kernel
theorem dX7_init_30 : decode cX7_init 30 = .ok (.dup, 1) := by decide +kernel
theorem dX7_init_31 : decode cX7_init 31 = .ok (.invokespecial 9, 3) := by decide +kernel
theorem dX7_init_34 : decode cX7_init 34 = .ok (.putfield 19, 3) := by decide +kernel
theorem dX7_init_37 : decode cX7_init 37 = .ok (.aload_n 0, 1) := by decide +kernel
theorem dX7_init_38 : decode cX7_init 38 = .ok (.new 22, 3) := by decide +kernel
theorem dX7_init_41 : decode cX7_init 41 = .ok (.dup, 1) := by decide +kernel
theorem dX7_init_42 : decode cX7_init 42 = .ok (.invokespecial 24, 3) := by decide +kernel
theorem dX7_init_45 : decode cX7_init 45 = .ok (.putfield 25, 3) := by decide +kernel
theorem dX7_init_48 : decode cX7_init 48 = .ok (.aload_n 0, 1) := by decide +kernel
theorem dX7_init_49 : decode cX7_init 49 = .ok (.new 29, 3) := by decide +kernel
theorem dX7_init_52 : decode cX7_init 52 = .ok (.dup, 1) := by decide +kernel
theorem dX7_init_53 : decode cX7_init 53 = .ok (.aload_n 0, 1) := by decide +kernel
theorem dX7_init_54 : decode cX7_init 54 = .ok (.getfield 10, 3) := by decide +kernel
theorem dX7_init_57 : decode cX7_init 57 = .ok (.invokespecial 31, 3) := by decide +kernel
theorem dX7_init_60 : decode cX7_init 60 = .ok (.putfield 34, 3) := by decide +kernel
theorem dX7_init_63 : decode cX7_init 63 = .ok (.aload_n 0, 1) := by decide +kernel
theorem dX7_init_64 : decode cX7_init 64 = .ok (.new 38, 3) := by decide +kernel
theorem dX7_init_67 : decode cX7_init 67 = .ok (.dup, 1) := by decide +kernel
theorem dX7_init_68 : decode cX7_init 68 = .ok (.invokespecial 40, 3) := by decide +kernel
theorem dX7_init_71 : decode cX7_init 71 = .ok (.putfield 41, 3) := by decide +kernel
theorem dX7_init_74 : decode cX7_init 74 = .ok (.aload_n 0, 1) := by decide +kernel
theorem dX7_init_75 : decode cX7_init 75 = .ok (.bipush 6, 2) := by decide +kernel
theorem dX7_init_77 : decode cX7_init 77 = .ok (.newarray .int, 2) := by decide +kernel
theorem dX7_init_79 : decode cX7_init 79 = .ok (.putfield 45, 3) := by decide +kernel
theorem dX7_init_82 : decode cX7_init 82 = .ok (.aload_n 0, 1) := by decide +kernel
theorem dX7_init_83 : decode cX7_init 83 = .ok (.bipush 7, 2) := by decide +kernel
theorem dX7_init_85 : decode cX7_init 85 = .ok (.newarray .int, 2) := by decide +kernel
theorem dX7_init_87 : decode cX7_init 87 = .ok (.putfield 49, 3) := by decide +kernel
theorem dX7_init_90 : decode cX7_init 90 = .ok (.aload_n 0, 1) := by decide +kernel
theorem dX7_init_91 : decode cX7_init 91 = .ok (.iconst 0, 1) := by decide +kernel
theorem dX7_init_92 : decode cX7_init 92 = .ok (.putfield 52, 3) := by decide +kernel
theorem dX7_init_95 : decode cX7_init 95 = .ok (.aload_n 0, 1) := by decide +kernel
theorem dX7_init_96 : decode cX7_init 96 = .ok (.iconst 0, 1) := by decide +kernel
theorem dX7_init_97 : decode cX7_init 97 = .ok (.putfield 56, 3) := by decide +kernel
theorem dX7_init_100 : decode cX7_init 100 = .ok (.return_, 1) := by decide +kernel
theorem dX7_letter_0 : decode cX7_letter 0 = .ok (.iload_n 1, 1) := by decide +kernel
theorem dX7_letter_1 : decode cX7_letter 1 = .ok (.ifCond .ge 10, 3) := by decide +kernel
theorem dX7_letter_4 : decode cX7_letter 4 = .ok (.aload_n 0, 1) := by decide +kernel
theorem dX7_letter_5 : decode cX7_letter 5 = .ok (.bipush (-4), 2) := by decide +kernel
theorem dX7_letter_7 : decode cX7_letter 7 = .ok (.invokevirtual 60, 3) := by decide +kernel
theorem dX7_letter_10 : decode cX7_letter 10 = .ok (.ireturn, 1) := by decide +kernel
theorem dX7_letter_11 : decode cX7_letter 11 = .ok (.iload_n 1, 1) := by decide +kernel
theorem dX7_letter_12 : decode cX7_letter 12 = .ok (.sipush 255, 3) := by decide +kernel
theorem dX7_letter_15 : decode cX7_letter 15 = .ok (.if_icmp .gt 14, 3) := by decide +kernel
theorem dX7_letter_18 : decode cX7_letter 18 = .ok (.aload_n 0, 1) := by decide +kernel
theorem dX7_letter_19 : decode cX7_letter 19 = .ok (.getfield 25, 3) := by decide +kernel
theorem dX7_letter_22 : decode cX7_letter 22 = .ok (.iload_n 1, 1) := by decide +kernel
theorem dX7_letter_23 : decode cX7_letter 23 = .ok (.invokevirtual 64, 3) := by decide +kernel
theorem dX7_letter_26 : decode cX7_letter 26 = .ok (.ifCond .ne 10, 3) := by decide +kernel
theorem dX7_letter_29 : decode cX7_letter 29 = .ok (.aload_n 0, 1) := by decide +kernel
theorem dX7_letter_30 : decode cX7_letter 30 = .ok (.bipush (-6), 2) := by decide +kernel
theorem dX7_letter_32 : decode cX7_letter 32 = .ok (.invokevirtual 60, 3) := by decide +kernel
theorem dX7_letter_35 : decode cX7_letter 35 = .ok (.ireturn, 1) := by decide +kernel
theorem dX7_letter_36 : decode cX7_letter 36 = .ok (.aload_n 0, 1) := by decide +kernel
theorem dX7_letter_37 : decode cX7_letter 37 = .ok (.getfield 25, 3) := by decide +kernel
theorem dX7_letter_40 : decode cX7_letter 40 = .ok (.getfield 68, 3) := by decide +kernel
theorem dX7_letter_43 : decode cX7_letter 43 = .ok (.ireturn, 1) := by decide +kernel
theorem dX7_town_0 : decode cX7_town 0 = .ok (.aload_n 0, 1) := by decide +kernel
theorem dX7_town_1 : decode cX7_town 1 = .ok (.getfield 25, 3) := by decide +kernel
theorem dX7_town_4 : decode cX7_town 4 = .ok (.invokevirtual 71, 3) := by decide +kernel
theorem dX7_town_7 : decode cX7_town 7 = .ok (.istore_n 1, 1) := by decide +kernel
theorem dX7_town_8 : decode cX7_town 8 = .ok (.iload_n 1, 1) := by decide +kernel
theorem dX7_town_9 : decode cX7_town 9 = .ok (.ifCond .ge 10, 3) := by decide +kernel
theorem dX7_town_12 : decode cX7_town 12 = .ok (.aload_n 0, 1) := by decide +kernel
theorem dX7_town_13 : decode cX7_town 13 = .ok (.invokevirtual 75, 3) := by decide +kernel
theorem dX7_town_16 : decode cX7_town 16 = .ok (.goto 8, 3) := by decide +kernel
theorem dX7_town_19 : decode cX7_town 19 = .ok (.sipush (-1000), 3) := by decide +kernel
theorem dX7_town_22 : decode cX7_town 22 = .ok (.iload_n 1, 1) := by decide +kernel
theorem dX7_town_23 : decode cX7_town 23 = .ok (.isub, 1) := by decide +kernel
theorem dX7_town_24 : decode cX7_town 24 = .ok (.istore_n 2, 1) := by decide +kernel
theorem dX7_town_25 : decode cX7_town 25 = .ok (.aload_n 0, 1) := by decide +kernel
theorem dX7_town_26 : decode cX7_town 26 = .ok (.getfield 25, 3) := by decide +kernel
theorem dX7_town_29 : decode cX7_town 29 = .ok (.iconst 0, 1) := by decide +kernel
theorem dX7_town_30 : decode cX7_town 30 = .ok (.putfield 68, 3) := by decide +kernel
theorem dX7_town_33 : decode cX7_town 33 = .ok (.iload_n 2, 1) := by decide +kernel
theorem dX7_town_34 : decode cX7_town 34 = .ok (.ireturn, 1) := by decide +kernel
theorem dX7_minutes_0 : decode cX7_minutes 0 = .ok (.aload_n 0, 1) := by decide +kernel
theorem dX7_minutes_1 : decode cX7_minutes 1 = .ok (.getfield 10, 3) := by decide +kernel
theorem dX7_minutes_4 : decode cX7_minutes 4 = .ok (.iload_n 1, 1) := by decide +kernel
theorem dX7_minutes_5 : decode cX7_minutes 5 = .ok (.invokevirtual 78, 3) := by decide +kernel
theorem dX7_minutes_8 : decode cX7_minutes 8 = .ok (.ifCond .eq 14, 3) := by decide +kernel
theorem dX7_minutes_11 : decode cX7_minutes 11 = .ok (.aload_n 0, 1) := by decide +kernel
theorem dX7_minutes_12 : decode cX7_minutes 12 = .ok (.getfield 10, 3) := by decide +kernel
theorem dX7_minutes_15 : decode cX7_minutes 15 = .ok (.iload_n 2, 1) := by decide +kernel
theorem dX7_minutes_16 : decode cX7_minutes 16 = .ok (.invokevirtual 78, 3) := by decide +kernel
theorem dX7_minutes_19 : decode cX7_minutes 19 = .ok (.ifCond .ne 9, 3) := by decide +kernel
theorem dX7_minutes_22 : decode cX7_minutes 22 = .ok (.aload_n 0, 1) := by decide +kernel
theorem dX7_minutes_23 : decode cX7_minutes 23 = .ok (.iconst (-1), 1) := by decide +kernel
theorem dX7_minutes_24 : decode cX7_minutes 24 = .ok (.invokevirtual 60, 3) := by decide +kernel
theorem dX7_minutes_27 : decode cX7_minutes 27 = .ok (.ireturn, 1) := by decide +kernel
theorem dX7_minutes_28 : decode cX7_minutes 28 = .ok (.aload_n 0, 1) := by decide +kernel
theorem dX7_minutes_29 : decode cX7_minutes 29 = .ok (.getfield 10, 3) := by decide +kernel
theorem dX7_minutes_32 : decode cX7_minutes 32 = .ok (.iload_n 1, 1) := by decide +kernel
theorem dX7_minutes_33 : decode cX7_minutes 33 = .ok (.iload_n 2, 1) := by decide +kernel
theorem dX7_minutes_34 : decode cX7_minutes 34 = .ok (.invokevirtual 81, 3) := by decide +kernel
theorem dX7_minutes_37 : decode cX7_minutes 37 = .ok (.istore_n 3, 1) := by decide +kernel
theorem dX7_minutes_38 : decode cX7_minutes 38 = .ok (.iload_n 3, 1) := by decide +kernel
theorem dX7_minutes_39 : decode cX7_minutes 39 = .ok (.ldc 85, 2) := by decide +kernel
theorem dX7_minutes_41 : decode cX7_minutes 41 = .ok (.if_icmp .lt 8, 3) := by decide +kernel
theorem dX7_minutes_44 : decode cX7_minutes 44 = .ok (.bipush (-9), 2) := by decide +kernel
theorem dX7_minutes_46 : decode cX7_minutes 46 = .ok (.goto 4, 3) := by decide +kernel
theorem dX7_minutes_49 : decode cX7_minutes 49 = .ok (.iload_n 3, 1) := by decide +kernel
theorem dX7_minutes_50 : decode cX7_minutes 50 = .ok (.ireturn, 1) := by decide +kernel
theorem dX7_person_0 : decode cX7_person 0 = .ok (.aload_n 0, 1) := by decide +kernel
theorem dX7_person_1 : decode cX7_person 1 = .ok (.getfield 10, 3) := by decide +kernel
theorem dX7_person_4 : decode cX7_person 4 = .ok (.iload_n 1, 1) := by decide +kernel
theorem dX7_person_5 : decode cX7_person 5 = .ok (.invokevirtual 86, 3) := by decide +kernel
theorem dX7_person_8 : decode cX7_person 8 = .ok (.ifCond .ne 9, 3) := by decide +kernel
theorem dX7_person_11 : decode cX7_person 11 = .ok (.aload_n 0, 1) := by decide +kernel
theorem dX7_person_12 : decode cX7_person 12 = .ok (.iconst (-1), 1) := by decide +kernel
theorem dX7_person_13 : decode cX7_person 13 = .ok (.invokevirtual 60, 3) := by decide +kernel
theorem dX7_person_16 : decode cX7_person 16 = .ok (.ireturn, 1) := by decide +kernel
theorem dX7_person_17 : decode cX7_person 17 = .ok (.iload_n 2, 1) := by decide +kernel
theorem dX7_person_18 : decode cX7_person 18 = .ok (.ifCond .lt 9, 3) := by decide +kernel
theorem dX7_person_21 : decode cX7_person 21 = .ok (.iload_n 2, 1) := by decide +kernel
theorem dX7_person_22 : decode cX7_person 22 = .ok (.bipush 7, 2) := by decide +kernel
theorem dX7_person_24 : decode cX7_person 24 = .ok (.if_icmp .le 10, 3) := by decide +kernel
theorem dX7_person_27 : decode cX7_person 27 = .ok (.aload_n 0, 1) := by decide +kernel
theorem dX7_person_28 : decode cX7_person 28 = .ok (.bipush (-2), 2) := by decide +kernel
theorem dX7_person_30 : decode cX7_person 30 = .ok (.invokevirtual 60, 3) := by decide +kernel
theorem dX7_person_33 : decode cX7_person 33 = .ok (.ireturn, 1) := by decide +kernel
theorem dX7_person_34 : decode cX7_person 34 = .ok (.iload_n 2, 1) := by decide +kernel
theorem dX7_person_35 : decode cX7_person 35 = .ok (.bipush 7, 2) := by decide +kernel
theorem dX7_person_37 : decode cX7_person 37 = .ok (.if_icmp .ne 14, 3) := by decide +kernel
theorem dX7_person_40 : decode cX7_person 40 = .ok (.aload_n 0, 1) := by decide +kernel
theorem dX7_person_41 : decode cX7_person 41 = .ok (.getfield 10, 3) := by decide +kernel
theorem dX7_person_44 : decode cX7_person 44 = .ok (.iload_n 1, 1) := by decide +kernel
theorem dX7_person_45 : decode cX7_person 45 = .ok (.invokevirtual 89, 3) := by decide +kernel
theorem dX7_person_48 : decode cX7_person 48 = .ok (.goto 16, 3) := by decide +kernel
theorem dX7_person_51 : decode cX7_person 51 = .ok (.aload_n 0, 1) := by decide +kernel
theorem dX7_person_52 : decode cX7_person 52 = .ok (.getfield 10, 3) := by decide +kernel
theorem dX7_person_55 : decode cX7_person 55 = .ok (.getfield 92, 3) := by decide +kernel
theorem dX7_person_58 : decode cX7_person 58 = .ok (.iload_n 1, 1) := by decide +kernel
theorem dX7_person_59 : decode cX7_person 59 = .ok (.aaload, 1) := by decide +kernel
theorem dX7_person_60 : decode cX7_person 60 = .ok (.iload_n 2, 1) := by decide +kernel
theorem dX7_person_61 : decode cX7_person 61 = .ok (.invokevirtual 96, 3) := by decide +kernel
theorem dX7_person_64 : decode cX7_person 64 = .ok (.ireturn, 1) := by decide +kernel
theorem dX7_thing_0 : decode cX7_thing 0 = .ok (.aload_n 0, 1) := by decide +kernel
theorem dX7_thing_1 : decode cX7_thing 1 = .ok (.getfield 10, 3) := by decide +kernel
theorem dX7_thing_4 : decode cX7_thing 4 = .ok (.iload_n 1, 1) := by decide +kernel
theorem dX7_thing_5 : decode cX7_thing 5 = .ok (.invokevirtual 101, 3) := by decide +kernel
theorem dX7_thing_8 : decode cX7_thing 8 = .ok (.ifCond .ne 9, 3) := by decide +kernel
theorem dX7_thing_11 : decode cX7_thing 11 = .ok (.aload_n 0, 1) := by decide +kernel
theorem dX7_thing_12 : decode cX7_thing 12 = .ok (.iconst (-1), 1) := by decide +kernel
theorem dX7_thing_13 : decode cX7_thing 13 = .ok (.invokevirtual 60, 3) := by decide +kernel
theorem dX7_thing_16 : decode cX7_thing 16 = .ok (.ireturn, 1) := by decide +kernel
theorem dX7_thing_17 : decode cX7_thing 17 = .ok (.iload_n 2, 1) := by decide +kernel
theorem dX7_thing_18 : decode cX7_thing 18 = .ok (.ifCond .lt 9, 3) := by decide +kernel
theorem dX7_thing_21 : decode cX7_thing 21 = .ok (.iload_n 2, 1) := by decide +kernel
theorem dX7_thing_22 : decode cX7_thing 22 = .ok (.bipush 9, 2) := by decide +kernel
theorem dX7_thing_24 : decode cX7_thing 24 = .ok (.if_icmp .le 10, 3) := by decide +kernel
theorem dX7_thing_27 : decode cX7_thing 27 = .ok (.aload_n 0, 1) := by decide +kernel
theorem dX7_thing_28 : decode cX7_thing 28 = .ok (.bipush (-2), 2) := by decide +kernel
theorem dX7_thing_30 : decode cX7_thing 30 = .ok (.invokevirtual 60, 3) := by decide +kernel
theorem dX7_thing_33 : decode cX7_thing 33 = .ok (.ireturn, 1) := by decide +kernel
theorem dX7_thing_34 : decode cX7_thing 34 = .ok (.aload_n 0, 1) := by decide +kernel
theorem dX7_thing_35 : decode cX7_thing 35 = .ok (.getfield 10, 3) := by decide +kernel
theorem dX7_thing_38 : decode cX7_thing 38 = .ok (.getfield 104, 3) := by decide +kernel
theorem dX7_thing_41 : decode cX7_thing 41 = .ok (.iload_n 1, 1) := by decide +kernel
theorem dX7_thing_42 : decode cX7_thing 42 = .ok (.aaload, 1) := by decide +kernel
theorem dX7_thing_43 : decode cX7_thing 43 = .ok (.iload_n 2, 1) := by decide +kernel
theorem dX7_thing_44 : decode cX7_thing 44 = .ok (.invokevirtual 108, 3) := by decide +kernel
theorem dX7_thing_47 : decode cX7_thing 47 = .ok (.ireturn, 1) := by decide +kernel
theorem dX7_law_0 : decode cX7_law 0 = .ok (.iload_n 1, 1) := by decide +kernel
theorem dX7_law_1 : decode cX7_law 1 = .ok (.ifCond .lt 8, 3) := by decide +kernel
theorem dX7_law_4 : decode cX7_law 4 = .ok (.iload_n 1, 1) := by decide +kernel
theorem dX7_law_5 : decode cX7_law 5 = .ok (.iconst 4, 1) := by decide +kernel
theorem dX7_law_6 : decode cX7_law 6 = .ok (.if_icmp .le 10, 3) := by decide +kernel
theorem dX7_law_9 : decode cX7_law 9 = .ok (.aload_n 0, 1) := by decide +kernel
theorem dX7_law_10 : decode cX7_law 10 = .ok (.bipush (-2), 2) := by decide +kernel
theorem dX7_law_12 : decode cX7_law 12 = .ok (.invokevirtual 60, 3) := by decide +kernel
theorem dX7_law_15 : decode cX7_law 15 = .ok (.ireturn, 1) := by decide +kernel
theorem dX7_law_16 : decode cX7_law 16 = .ok (.aload_n 0, 1) := by decide +kernel
theorem dX7_law_17 : decode cX7_law 17 = .ok (.getfield 10, 3) := by decide +kernel
theorem dX7_law_20 : decode cX7_law 20 = .ok (.getfield 111, 3) := by decide +kernel
theorem dX7_law_23 : decode cX7_law 23 = .ok (.istore_n 2, 1) := by decide +kernel
theorem dX7_law_24 : decode cX7_law 24 = .ok (.aload_n 0, 1) := by decide +kernel
theorem dX7_law_25 : decode cX7_law 25 = .ok (.getfield 10, 3) := by decide +kernel
theorem dX7_law_28 : decode cX7_law 28 = .ok (.iload_n 1, 1) := by decide +kernel
theorem dX7_law_29 : decode cX7_law 29 = .ok (.putfield 111, 3) := by decide +kernel
theorem dX7_law_32 : decode cX7_law 32 = .ok (.iload_n 2, 1) := by decide +kernel
theorem dX7_law_33 : decode cX7_law 33 = .ok (.ireturn, 1) := by decide +kernel
theorem dX7_may_0 : decode cX7_may 0 = .ok (.aload_n 0, 1) := by decide +kernel
theorem dX7_may_1 : decode cX7_may 1 = .ok (.getfield 10, 3) := by decide +kernel
theorem dX7_may_4 : decode cX7_may 4 = .ok (.iload_n 1, 1) := by decide +kernel
theorem dX7_may_5 : decode cX7_may 5 = .ok (.invokevirtual 86, 3) := by decide +kernel
theorem dX7_may_8 : decode cX7_may 8 = .ok (.ifCond .eq 14, 3) := by decide +kernel
theorem dX7_may_11 : decode cX7_may 11 = .ok (.aload_n 0, 1) := by decide +kernel
theorem dX7_may_12 : decode cX7_may 12 = .ok (.getfield 10, 3) := by decide +kernel
theorem dX7_may_15 : decode cX7_may 15 = .ok (.iload_n 2, 1) := by decide +kernel
theorem dX7_may_16 : decode cX7_may 16 = .ok (.invokevirtual 101, 3) := by decide +kernel
theorem dX7_may_19 : decode cX7_may 19 = .ok (.ifCond .ne 9, 3) := by decide +kernel
theorem dX7_may_22 : decode cX7_may 22 = .ok (.aload_n 0, 1) := by decide +kernel
theorem dX7_may_23 : decode cX7_may 23 = .ok (.iconst (-1), 1) := by decide +kernel
theorem dX7_may_24 : decode cX7_may 24 = .ok (.invokevirtual 60, 3) := by decide +kernel
theorem dX7_may_27 : decode cX7_may 27 = .ok (.ireturn, 1) := by decide +kernel
theorem dX7_may_28 : decode cX7_may 28 = .ok (.iload_n 3, 1) := by decide +kernel
theorem dX7_may_29 : decode cX7_may 29 = .ok (.ifCond .ge 10, 3) := by decide +kernel
theorem dX7_may_32 : decode cX7_may 32 = .ok (.aload_n 0, 1) := by decide +kernel
theorem dX7_may_33 : decode cX7_may 33 = .ok (.bipush (-4), 2) := by decide +kernel
theorem dX7_may_35 : decode cX7_may 35 = .ok (.invokevirtual 60, 3) := by decide +kernel
theorem dX7_may_38 : decode cX7_may 38 = .ok (.ireturn, 1) := by decide +kernel
theorem dX7_may_39 : decode cX7_may 39 = .ok (.iload_n 3, 1) := by decide +kernel
theorem dX7_may_40 : decode cX7_may 40 = .ok (.sipush 9999, 3) := by decide +kernel
theorem dX7_may_43 : decode cX7_may 43 = .ok (.if_icmp .le 10, 3) := by decide +kernel
theorem dX7_may_46 : decode cX7_may 46 = .ok (.aload_n 0, 1) := by decide +kernel
theorem dX7_may_47 : decode cX7_may 47 = .ok (.bipush (-6), 2) := by decide +kernel
theorem dX7_may_49 : decode cX7_may 49 = .ok (.invokevirtual 60, 3) := by decide +kernel
theorem dX7_may_52 : decode cX7_may 52 = .ok (.ireturn, 1) := by decide +kernel
theorem dX7_may_53 : decode cX7_may 53 = .ok (.aload_n 0, 1) := by decide +kernel
theorem dX7_may_54 : decode cX7_may 54 = .ok (.getfield 10, 3) := by decide +kernel
theorem dX7_may_57 : decode cX7_may 57 = .ok (.iload_n 1, 1) := by decide +kernel
theorem dX7_may_58 : decode cX7_may 58 = .ok (.iload_n 2, 1) := by decide +kernel
theorem dX7_may_59 : decode cX7_may 59 = .ok (.iload_n 3, 1) := by decide +kernel
theorem dX7_may_60 : decode cX7_may 60 = .ok (.invokevirtual 114, 3) := by decide +kernel
theorem dX7_may_63 : decode cX7_may 63 = .ok (.ifCond .eq 7, 3) := by decide +kernel
theorem dX7_may_66 : decode cX7_may 66 = .ok (.iconst 1, 1) := by decide +kernel
theorem dX7_may_67 : decode cX7_may 67 = .ok (.goto 4, 3) := by decide +kernel
theorem dX7_may_70 : decode cX7_may 70 = .ok (.iconst 0, 1) := by decide +kernel
theorem dX7_may_71 : decode cX7_may 71 = .ok (.ireturn, 1) := by decide +kernel
theorem dX7_take_0 : decode cX7_take 0 = .ok (.aload_n 0, 1) := by decide +kernel
theorem dX7_take_1 : decode cX7_take 1 = .ok (.getfield 10, 3) := by decide +kernel
theorem dX7_take_4 : decode cX7_take 4 = .ok (.iload_n 1, 1) := by decide +kernel
theorem dX7_take_5 : decode cX7_take 5 = .ok (.invokevirtual 86, 3) := by decide +kernel
theorem dX7_take_8 : decode cX7_take 8 = .ok (.ifCond .eq 14, 3) := by decide +kernel
theorem dX7_take_11 : decode cX7_take 11 = .ok (.aload_n 0, 1) := by decide +kernel
theorem dX7_take_12 : decode cX7_take 12 = .ok (.getfield 10, 3) := by decide +kernel
theorem dX7_take_15 : decode cX7_take 15 = .ok (.iload_n 2, 1) := by decide +kernel
theorem dX7_take_16 : decode cX7_take 16 = .ok (.invokevirtual 101, 3) := by decide +kernel
theorem dX7_take_19 : decode cX7_take 19 = .ok (.ifCond .ne 9, 3) := by decide +kernel
theorem dX7_take_22 : decode cX7_take 22 = .ok (.aload_n 0, 1) := by decide +kernel
theorem dX7_take_23 : decode cX7_take 23 = .ok (.iconst (-1), 1) := by decide +kernel
theorem dX7_take_24 : decode cX7_take 24 = .ok (.invokevirtual 60, 3) := by decide +kernel
theorem dX7_take_27 : decode cX7_take 27 = .ok (.ireturn, 1) := by decide +kernel
theorem dX7_take_28 : decode cX7_take 28 = .ok (.aload_n 0, 1) := by decide +kernel
theorem dX7_take_29 : decode cX7_take 29 = .ok (.getfield 10, 3) := by decide +kernel
theorem dX7_take_32 : decode cX7_take 32 = .ok (.iload_n 1, 1) := by decide +kernel
theorem dX7_take_33 : decode cX7_take 33 = .ok (.iload_n 2, 1) := by decide +kernel
theorem dX7_take_34 : decode cX7_take 34 = .ok (.invokevirtual 118, 3) := by decide +kernel
theorem dX7_take_37 : decode cX7_take 37 = .ok (.ifCond .eq 18, 3) := by decide +kernel
theorem dX7_take_40 : decode cX7_take 40 = .ok (.aload_n 0, 1) := by decide +kernel
theorem dX7_take_41 : decode cX7_take 41 = .ok (.getfield 10, 3) := by decide +kernel
theorem dX7_take_44 : decode cX7_take 44 = .ok (.getfield 92, 3) := by decide +kernel
theorem dX7_take_47 : decode cX7_take 47 = .ok (.iload_n 1, 1) := by decide +kernel
theorem dX7_take_48 : decode cX7_take 48 = .ok (.aaload, 1) := by decide +kernel
theorem dX7_take_49 : decode cX7_take 49 = .ok (.getfield 122, 3) := by decide +kernel
theorem dX7_take_52 : decode cX7_take 52 = .ok (.goto 9, 3) := by decide +kernel
theorem dX7_take_55 : decode cX7_take 55 = .ok (.aload_n 0, 1) := by decide +kernel
theorem dX7_take_56 : decode cX7_take 56 = .ok (.bipush (-3), 2) := by decide +kernel
theorem dX7_take_58 : decode cX7_take 58 = .ok (.invokevirtual 60, 3) := by decide +kernel
theorem dX7_take_61 : decode cX7_take 61 = .ok (.ireturn, 1) := by decide +kernel
theorem dX7_go_0 : decode cX7_go 0 = .ok (.aload_n 0, 1) := by decide +kernel
theorem dX7_go_1 : decode cX7_go 1 = .ok (.getfield 10, 3) := by decide +kernel
theorem dX7_go_4 : decode cX7_go 4 = .ok (.iload_n 1, 1) := by decide +kernel
theorem dX7_go_5 : decode cX7_go 5 = .ok (.invokevirtual 86, 3) := by decide +kernel
theorem dX7_go_8 : decode cX7_go 8 = .ok (.ifCond .eq 14, 3) := by decide +kernel
theorem dX7_go_11 : decode cX7_go 11 = .ok (.aload_n 0, 1) := by decide +kernel
theorem dX7_go_12 : decode cX7_go 12 = .ok (.getfield 10, 3) := by decide +kernel
theorem dX7_go_15 : decode cX7_go 15 = .ok (.iload_n 2, 1) := by decide +kernel
theorem dX7_go_16 : decode cX7_go 16 = .ok (.invokevirtual 78, 3) := by decide +kernel
theorem dX7_go_19 : decode cX7_go 19 = .ok (.ifCond .ne 9, 3) := by decide +kernel
theorem dX7_go_22 : decode cX7_go 22 = .ok (.aload_n 0, 1) := by decide +kernel
theorem dX7_go_23 : decode cX7_go 23 = .ok (.iconst (-1), 1) := by decide +kernel
theorem dX7_go_24 : decode cX7_go 24 = .ok (.invokevirtual 60, 3) := by decide +kernel
theorem dX7_go_27 : decode cX7_go 27 = .ok (.ireturn, 1) := by decide +kernel
theorem dX7_go_28 : decode cX7_go 28 = .ok (.aload_n 0, 1) := by decide +kernel
theorem dX7_go_29 : decode cX7_go 29 = .ok (.getfield 10, 3) := by decide +kernel
theorem dX7_go_32 : decode cX7_go 32 = .ok (.iload_n 1, 1) := by decide +kernel
theorem dX7_go_33 : decode cX7_go 33 = .ok (.iload_n 2, 1) := by decide +kernel
theorem dX7_go_34 : decode cX7_go 34 = .ok (.invokevirtual 125, 3) := by decide +kernel
theorem dX7_go_37 : decode cX7_go 37 = .ok (.ifCond .eq 18, 3) := by decide +kernel
theorem dX7_go_40 : decode cX7_go 40 = .ok (.aload_n 0, 1) := by decide +kernel
theorem dX7_go_41 : decode cX7_go 41 = .ok (.getfield 10, 3) := by decide +kernel
theorem dX7_go_44 : decode cX7_go 44 = .ok (.getfield 92, 3) := by decide +kernel
theorem dX7_go_47 : decode cX7_go 47 = .ok (.iload_n 1, 1) := by decide +kernel
theorem dX7_go_48 : decode cX7_go 48 = .ok (.aaload, 1) := by decide +kernel
theorem dX7_go_49 : decode cX7_go 49 = .ok (.getfield 122, 3) := by decide +kernel
theorem dX7_go_52 : decode cX7_go 52 = .ok (.goto 9, 3) := by decide +kernel
theorem dX7_go_55 : decode cX7_go 55 = .ok (.aload_n 0, 1) := by decide +kernel
theorem dX7_go_56 : decode cX7_go 56 = .ok (.bipush (-3), 2) := by decide +kernel
theorem dX7_go_58 : decode cX7_go 58 = .ok (.invokevirtual 60, 3) := by decide +kernel
theorem dX7_go_61 : decode cX7_go 61 = .ok (.ireturn, 1) := by decide +kernel
theorem dX7_lay_0 : decode cX7_lay 0 = .ok (.aload_n 0, 1) := by decide +kernel
theorem dX7_lay_1 : decode cX7_lay 1 = .ok (.getfield 10, 3) := by decide +kernel
theorem dX7_lay_4 : decode cX7_lay 4 = .ok (.iload_n 1, 1) := by decide +kernel
theorem dX7_lay_5 : decode cX7_lay 5 = .ok (.invokevirtual 86, 3) := by decide +kernel
theorem dX7_lay_8 : decode cX7_lay 8 = .ok (.ifCond .eq 14, 3) := by decide +kernel
theorem dX7_lay_11 : decode cX7_lay 11 = .ok (.aload_n 0, 1) := by decide +kernel
theorem dX7_lay_12 : decode cX7_lay 12 = .ok (.getfield 10, 3) := by decide +kernel
theorem dX7_lay_15 : decode cX7_lay 15 = .ok (.iload_n 2, 1) := by decide +kernel
theorem dX7_lay_16 : decode cX7_lay 16 = .ok (.invokevirtual 101, 3) := by decide +kernel
theorem dX7_lay_19 : decode cX7_lay 19 = .ok (.ifCond .ne 9, 3) := by decide +kernel
theorem dX7_lay_22 : decode cX7_lay 22 = .ok (.aload_n 0, 1) := by decide +kernel
theorem dX7_lay_23 : decode cX7_lay 23 = .ok (.iconst (-1), 1) := by decide +kernel
theorem dX7_lay_24 : decode cX7_lay 24 = .ok (.invokevirtual 60, 3) := by decide +kernel
theorem dX7_lay_27 : decode cX7_lay 27 = .ok (.ireturn, 1) := by decide +kernel
theorem dX7_lay_28 : decode cX7_lay 28 = .ok (.aload_n 0, 1) := by decide +kernel
theorem dX7_lay_29 : decode cX7_lay 29 = .ok (.getfield 10, 3) := by decide +kernel
theorem dX7_lay_32 : decode cX7_lay 32 = .ok (.iload_n 1, 1) := by decide +kernel
theorem dX7_lay_33 : decode cX7_lay 33 = .ok (.iload_n 2, 1) := by decide +kernel
theorem dX7_lay_34 : decode cX7_lay 34 = .ok (.invokevirtual 128, 3) := by decide +kernel
theorem dX7_lay_37 : decode cX7_lay 37 = .ok (.ifCond .eq 18, 3) := by decide +kernel
theorem dX7_lay_40 : decode cX7_lay 40 = .ok (.aload_n 0, 1) := by decide +kernel
theorem dX7_lay_41 : decode cX7_lay 41 = .ok (.getfield 10, 3) := by decide +kernel
theorem dX7_lay_44 : decode cX7_lay 44 = .ok (.getfield 92, 3) := by decide +kernel
theorem dX7_lay_47 : decode cX7_lay 47 = .ok (.iload_n 1, 1) := by decide +kernel
theorem dX7_lay_48 : decode cX7_lay 48 = .ok (.aaload, 1) := by decide +kernel
theorem dX7_lay_49 : decode cX7_lay 49 = .ok (.getfield 122, 3) := by decide +kernel
theorem dX7_lay_52 : decode cX7_lay 52 = .ok (.goto 9, 3) := by decide +kernel
theorem dX7_lay_55 : decode cX7_lay 55 = .ok (.aload_n 0, 1) := by decide +kernel
theorem dX7_lay_56 : decode cX7_lay 56 = .ok (.bipush (-3), 2) := by decide +kernel
theorem dX7_lay_58 : decode cX7_lay 58 = .ok (.invokevirtual 60, 3) := by decide +kernel
theorem dX7_lay_61 : decode cX7_lay 61 = .ok (.ireturn, 1) := by decide +kernel
theorem dX7_hand_0 : decode cX7_hand 0 = .ok (.aload_n 0, 1) := by decide +kernel
theorem dX7_hand_1 : decode cX7_hand 1 = .ok (.getfield 10, 3) := by decide +kernel
theorem dX7_hand_4 : decode cX7_hand 4 = .ok (.iload_n 1, 1) := by decide +kernel
theorem dX7_hand_5 : decode cX7_hand 5 = .ok (.invokevirtual 86, 3) := by decide +kernel
theorem dX7_hand_8 : decode cX7_hand 8 = .ok (.ifCond .eq 30, 3) := by decide +kernel
theorem dX7_hand_11 : decode cX7_hand 11 = .ok (.aload_n 0, 1) := by decide +kernel
theorem dX7_hand_12 : decode cX7_hand 12 = .ok (.getfield 10, 3) := by decide +kernel
theorem dX7_hand_15 : decode cX7_hand 15 = .ok (.iload_n 2, 1) := by decide +kernel
theorem dX7_hand_16 : decode cX7_hand 16 = .ok (.invokevirtual 86, 3) := by decide +kernel
theorem dX7_hand_19 : decode cX7_hand 19 = .ok (.ifCond .eq 19, 3) := by decide +kernel
theorem dX7_hand_22 : decode cX7_hand 22 = .ok (.iload_n 1, 1) := by decide +kernel
theorem dX7_hand_23 : decode cX7_hand 23 = .ok (.iload_n 2, 1) := by decide +kernel
theorem dX7_hand_24 : decode cX7_hand 24 = .ok (.if_icmp .eq 14, 3) := by decide +kernel
theorem dX7_hand_27 : decode cX7_hand 27 = .ok (.aload_n 0, 1) := by decide +kernel
theorem dX7_hand_28 : decode cX7_hand 28 = .ok (.getfield 10, 3) := by decide +kernel
theorem dX7_hand_31 : decode cX7_hand 31 = .ok (.iload_n 3, 1) := by decide +kernel
theorem dX7_hand_32 : decode cX7_hand 32 = .ok (.invokevirtual 101, 3) := by decide +kernel
theorem dX7_hand_35 : decode cX7_hand 35 = .ok (.ifCond .ne 9, 3) := by decide +kernel
theorem dX7_hand_38 : decode cX7_hand 38 = .ok (.aload_n 0, 1) := by decide +kernel
theorem dX7_hand_39 : decode cX7_hand 39 = .ok (.iconst (-1), 1) := by decide +kernel
theorem dX7_hand_40 : decode cX7_hand 40 = .ok (.invokevirtual 60, 3) := by decide +kernel
theorem dX7_hand_43 : decode cX7_hand 43 = .ok (.ireturn, 1) := by decide +kernel
theorem dX7_hand_44 : decode cX7_hand 44 = .ok (.aload_n 0, 1) := by decide +kernel
theorem dX7_hand_45 : decode cX7_hand 45 = .ok (.getfield 10, 3) := by decide +kernel
theorem dX7_hand_48 : decode cX7_hand 48 = .ok (.iload_n 1, 1) := by decide +kernel
theorem dX7_hand_49 : decode cX7_hand 49 = .ok (.iload_n 2, 1) := by decide +kernel
theorem dX7_hand_50 : decode cX7_hand 50 = .ok (.iload_n 3, 1) := by decide +kernel
theorem dX7_hand_51 : decode cX7_hand 51 = .ok (.invokevirtual 131, 3) := by decide +kernel
theorem dX7_hand_54 : decode cX7_hand 54 = .ok (.ifCond .eq 18, 3) := by decide +kernel
theorem dX7_hand_57 : decode cX7_hand 57 = .ok (.aload_n 0, 1) := by decide +kernel
theorem dX7_hand_58 : decode cX7_hand 58 = .ok (.getfield 10, 3) := by decide +kernel
theorem dX7_hand_61 : decode cX7_hand 61 = .ok (.getfield 92, 3) := by decide +kernel
theorem dX7_hand_64 : decode cX7_hand 64 = .ok (.iload_n 1, 1) := by decide +kernel
theorem dX7_hand_65 : decode cX7_hand 65 = .ok (.aaload, 1) := by decide +kernel
theorem dX7_hand_66 : decode cX7_hand 66 = .ok (.getfield 122, 3) := by decide +kernel
theorem dX7_hand_69 : decode cX7_hand 69 = .ok (.goto 9, 3) := by decide +kernel
theorem dX7_hand_72 : decode cX7_hand 72 = .ok (.aload_n 0, 1) := by decide +kernel
theorem dX7_hand_73 : decode cX7_hand 73 = .ok (.bipush (-3), 2) := by decide +kernel
theorem dX7_hand_75 : decode cX7_hand 75 = .ok (.invokevirtual 60, 3) := by decide +kernel
theorem dX7_hand_78 : decode cX7_hand 78 = .ok (.ireturn, 1) := by decide +kernel
theorem dX7_tarry_0 : decode cX7_tarry 0 = .ok (.aload_n 0, 1) := by decide +kernel
theorem dX7_tarry_1 : decode cX7_tarry 1 = .ok (.getfield 10, 3) := by decide +kernel
theorem dX7_tarry_4 : decode cX7_tarry 4 = .ok (.iload_n 1, 1) := by decide +kernel
theorem dX7_tarry_5 : decode cX7_tarry 5 = .ok (.invokevirtual 86, 3) := by decide +kernel
theorem dX7_tarry_8 : decode cX7_tarry 8 = .ok (.ifCond .ne 9, 3) := by decide +kernel
theorem dX7_tarry_11 : decode cX7_tarry 11 = .ok (.aload_n 0, 1) := by decide +kernel
theorem dX7_tarry_12 : decode cX7_tarry 12 = .ok (.iconst (-1), 1) := by decide +kernel
theorem dX7_tarry_13 : decode cX7_tarry 13 = .ok (.invokevirtual 60, 3) := by decide +kernel
theorem dX7_tarry_16 : decode cX7_tarry 16 = .ok (.ireturn, 1) := by decide +kernel
theorem dX7_tarry_17 : decode cX7_tarry 17 = .ok (.iload_n 2, 1) := by decide +kernel
theorem dX7_tarry_18 : decode cX7_tarry 18 = .ok (.iconst 1, 1) := by decide +kernel
theorem dX7_tarry_19 : decode cX7_tarry 19 = .ok (.if_icmp .ge 10, 3) := by decide +kernel
theorem dX7_tarry_22 : decode cX7_tarry 22 = .ok (.aload_n 0, 1) := by decide +kernel
theorem dX7_tarry_23 : decode cX7_tarry 23 = .ok (.bipush (-4), 2) := by decide +kernel
theorem dX7_tarry_25 : decode cX7_tarry 25 = .ok (.invokevirtual 60, 3) := by decide +kernel
theorem dX7_tarry_28 : decode cX7_tarry 28 = .ok (.ireturn, 1) := by decide +kernel
theorem dX7_tarry_29 : decode cX7_tarry 29 = .ok (.iload_n 2, 1) := by decide +kernel
theorem dX7_tarry_30 : decode cX7_tarry 30 = .ok (.sipush 600, 3) := by decide +kernel
theorem dX7_tarry_33 : decode cX7_tarry 33 = .ok (.if_icmp .le 10, 3) := by decide +kernel
theorem dX7_tarry_36 : decode cX7_tarry 36 = .ok (.aload_n 0, 1) := by decide +kernel
theorem dX7_tarry_37 : decode cX7_tarry 37 = .ok (.bipush (-6), 2) := by decide +kernel
theorem dX7_tarry_39 : decode cX7_tarry 39 = .ok (.invokevirtual 60, 3) := by decide +kernel
theorem dX7_tarry_42 : decode cX7_tarry 42 = .ok (.ireturn, 1) := by decide +kernel
theorem dX7_tarry_43 : decode cX7_tarry 43 = .ok (.aload_n 0, 1) := by decide +kernel
theorem dX7_tarry_44 : decode cX7_tarry 44 = .ok (.getfield 10, 3) := by decide +kernel
theorem dX7_tarry_47 : decode cX7_tarry 47 = .ok (.getfield 92, 3) := by decide +kernel
theorem dX7_tarry_50 : decode cX7_tarry 50 = .ok (.iload_n 1, 1) := by decide +kernel
theorem dX7_tarry_51 : decode cX7_tarry 51 = .ok (.aaload, 1) := by decide +kernel
theorem dX7_tarry_52 : decode cX7_tarry 52 = .ok (.dup, 1) := by decide +kernel
theorem dX7_tarry_53 : decode cX7_tarry 53 = .ok (.getfield 122, 3) := by decide +kernel
theorem dX7_tarry_56 : decode cX7_tarry 56 = .ok (.iload_n 2, 1) := by decide +kernel
theorem dX7_tarry_57 : decode cX7_tarry 57 = .ok (.iadd, 1) := by decide +kernel
theorem dX7_tarry_58 : decode cX7_tarry 58 = .ok (.putfield 122, 3) := by decide +kernel
theorem dX7_tarry_61 : decode cX7_tarry 61 = .ok (.aload_n 0, 1) := by decide +kernel
theorem dX7_tarry_62 : decode cX7_tarry 62 = .ok (.getfield 10, 3) := by decide +kernel
theorem dX7_tarry_65 : decode cX7_tarry 65 = .ok (.getfield 92, 3) := by decide +kernel
theorem dX7_tarry_68 : decode cX7_tarry 68 = .ok (.iload_n 1, 1) := by decide +kernel
theorem dX7_tarry_69 : decode cX7_tarry 69 = .ok (.aaload, 1) := by decide +kernel
theorem dX7_tarry_70 : decode cX7_tarry 70 = .ok (.getfield 122, 3) := by decide +kernel
theorem dX7_tarry_73 : decode cX7_tarry 73 = .ok (.ireturn, 1) := by decide +kernel
theorem dX7_give_0 : decode cX7_give 0 = .ok (.aload_n 0, 1) := by decide +kernel
theorem dX7_give_1 : decode cX7_give 1 = .ok (.getfield 10, 3) := by decide +kernel
theorem dX7_give_4 : decode cX7_give 4 = .ok (.iload_n 1, 1) := by decide +kernel
theorem dX7_give_5 : decode cX7_give 5 = .ok (.invokevirtual 86, 3) := by decide +kernel
theorem dX7_give_8 : decode cX7_give 8 = .ok (.ifCond .eq 14, 3) := by decide +kernel
theorem dX7_give_11 : decode cX7_give 11 = .ok (.aload_n 0, 1) := by decide +kernel
theorem dX7_give_12 : decode cX7_give 12 = .ok (.getfield 10, 3) := by decide +kernel
theorem dX7_give_15 : decode cX7_give 15 = .ok (.iload_n 2, 1) := by decide +kernel
theorem dX7_give_16 : decode cX7_give 16 = .ok (.invokevirtual 101, 3) := by decide +kernel
theorem dX7_give_19 : decode cX7_give 19 = .ok (.ifCond .ne 9, 3) := by decide +kernel
theorem dX7_give_22 : decode cX7_give 22 = .ok (.aload_n 0, 1) := by decide +kernel
theorem dX7_give_23 : decode cX7_give 23 = .ok (.iconst (-1), 1) := by decide +kernel
theorem dX7_give_24 : decode cX7_give 24 = .ok (.invokevirtual 60, 3) := by decide +kernel
theorem dX7_give_27 : decode cX7_give 27 = .ok (.ireturn, 1) := by decide +kernel
theorem dX7_give_28 : decode cX7_give 28 = .ok (.aload_n 0, 1) := by decide +kernel
theorem dX7_give_29 : decode cX7_give 29 = .ok (.getfield 10, 3) := by decide +kernel
theorem dX7_give_32 : decode cX7_give 32 = .ok (.getfield 104, 3) := by decide +kernel
theorem dX7_give_35 : decode cX7_give 35 = .ok (.iload_n 2, 1) := by decide +kernel
theorem dX7_give_36 : decode cX7_give 36 = .ok (.aaload, 1) := by decide +kernel
theorem dX7_give_37 : decode cX7_give 37 = .ok (.iload_n 1, 1) := by decide +kernel
theorem dX7_give_38 : decode cX7_give 38 = .ok (.invokevirtual 134, 3) := by decide +kernel
theorem dX7_give_41 : decode cX7_give 41 = .ok (.ifCond .ne 10, 3) := by decide +kernel
theorem dX7_give_44 : decode cX7_give 44 = .ok (.aload_n 0, 1) := by decide +kernel
theorem dX7_give_45 : decode cX7_give 45 = .ok (.bipush (-3), 2) := by decide +kernel
theorem dX7_give_47 : decode cX7_give 47 = .ok (.invokevirtual 60, 3) := by decide +kernel
theorem dX7_give_50 : decode cX7_give 50 = .ok (.ireturn, 1) := by decide +kernel
theorem dX7_give_51 : decode cX7_give 51 = .ok (.aload_n 0, 1) := by decide +kernel
theorem dX7_give_52 : decode cX7_give 52 = .ok (.getfield 10, 3) := by decide +kernel
theorem dX7_give_55 : decode cX7_give 55 = .ok (.getfield 104, 3) := by decide +kernel
theorem dX7_give_58 : decode cX7_give 58 = .ok (.iload_n 2, 1) := by decide +kernel
theorem dX7_give_59 : decode cX7_give 59 = .ok (.aaload, 1) := by decide +kernel
theorem dX7_give_60 : decode cX7_give 60 = .ok (.aload_n 0, 1) := by decide +kernel
theorem dX7_give_61 : decode cX7_give 61 = .ok (.getfield 10, 3) := by decide +kernel
theorem dX7_give_64 : decode cX7_give 64 = .ok (.getfield 92, 3) := by decide +kernel
theorem dX7_give_67 : decode cX7_give 67 = .ok (.iload_n 1, 1) := by decide +kernel
theorem dX7_give_68 : decode cX7_give 68 = .ok (.aaload, 1) := by decide +kernel
theorem dX7_give_69 : decode cX7_give 69 = .ok (.getfield 122, 3) := by decide +kernel
theorem dX7_give_72 : decode cX7_give 72 = .ok (.putfield 137, 3) := by decide +kernel
theorem dX7_give_75 : decode cX7_give 75 = .ok (.aload_n 0, 1) := by decide +kernel
theorem dX7_give_76 : decode cX7_give 76 = .ok (.getfield 10, 3) := by decide +kernel
theorem dX7_give_79 : decode cX7_give 79 = .ok (.getfield 92, 3) := by decide +kernel
theorem dX7_give_82 : decode cX7_give 82 = .ok (.iload_n 1, 1) := by decide +kernel
theorem dX7_give_83 : decode cX7_give 83 = .ok (.aaload, 1) := by decide +kernel
theorem dX7_give_84 : decode cX7_give 84 = .ok (.getfield 122, 3) := by decide +kernel
theorem dX7_give_87 : decode cX7_give 87 = .ok (.ireturn, 1) := by decide +kernel
theorem dX7_there_0 : decode cX7_there 0 = .ok (.iconst 0, 1) := by decide +kernel
theorem dX7_there_1 : decode cX7_there 1 = .ok (.istore_n 1, 1) := by decide +kernel
theorem dX7_there_2 : decode cX7_there 2 = .ok (.iconst 0, 1) := by decide +kernel
theorem dX7_there_3 : decode cX7_there 3 = .ok (.istore_n 2, 1) := by decide +kernel
theorem dX7_there_4 : decode cX7_there 4 = .ok (.iload_n 2, 1) := by decide +kernel
theorem dX7_there_5 : decode cX7_there 5 = .ok (.aload_n 0, 1) := by decide +kernel
theorem dX7_there_6 : decode cX7_there 6 = .ok (.getfield 10, 3) := by decide +kernel
theorem dX7_there_9 : decode cX7_there 9 = .ok (.getfield 140, 3) := by decide +kernel
theorem dX7_there_12 : decode cX7_there 12 = .ok (.if_icmp .ge 44, 3) := by decide +kernel
theorem dX7_there_15 : decode cX7_there 15 = .ok (.aload_n 0, 1) := by decide +kernel
theorem dX7_there_16 : decode cX7_there 16 = .ok (.getfield 10, 3) := by decide +kernel
theorem dX7_there_19 : decode cX7_there 19 = .ok (.getfield 104, 3) := by decide +kernel
theorem dX7_there_22 : decode cX7_there 22 = .ok (.iload_n 2, 1) := by decide +kernel
theorem dX7_there_23 : decode cX7_there 23 = .ok (.aaload, 1) := by decide +kernel
theorem dX7_there_24 : decode cX7_there 24 = .ok (.astore_n 3, 1) := by decide +kernel
theorem dX7_there_25 : decode cX7_there 25 = .ok (.aload_n 3, 1) := by decide +kernel
theorem dX7_there_26 : decode cX7_there 26 = .ok (.getfield 143, 3) := by decide +kernel
theorem dX7_there_29 : decode cX7_there 29 = .ok (.aload_n 3, 1) := by decide +kernel
theorem dX7_there_30 : decode cX7_there 30 = .ok (.getfield 146, 3) := by decide +kernel
theorem dX7_there_33 : decode cX7_there 33 = .ok (.if_icmp .ne 17, 3) := by decide +kernel
theorem dX7_there_36 : decode cX7_there 36 = .ok (.aload_n 3, 1) := by decide +kernel
theorem dX7_there_37 : decode cX7_there 37 = .ok (.getfield 149, 3) := by decide +kernel
theorem dX7_there_40 : decode cX7_there 40 = .ok (.aload_n 3, 1) := by decide +kernel
theorem dX7_there_41 : decode cX7_there 41 = .ok (.getfield 152, 3) := by decide +kernel
theorem dX7_there_44 : decode cX7_there 44 = .ok (.if_icmp .gt 6, 3) := by decide +kernel
theorem dX7_there_47 : decode cX7_there 47 = .ok (.iinc 1 1, 3) := by decide +kernel
theorem dX7_there_50 : decode cX7_there 50 = .ok (.iinc 2 1, 3) := by decide +kernel
theorem dX7_there_53 : decode cX7_there 53 = .ok (.goto (-49), 3) := by decide +kernel
theorem dX7_there_56 : decode cX7_there 56 = .ok (.iload_n 1, 1) := by decide +kernel
theorem dX7_there_57 : decode cX7_there 57 = .ok (.ireturn, 1) := by decide +kernel
theorem dX7_soonest_0 : decode cX7_soonest 0 = .ok (.aload_n 0, 1) := by decide +kernel
theorem dX7_soonest_1 : decode cX7_soonest 1 = .ok (.getfield 10, 3) := by decide +kernel
theorem dX7_soonest_4 : decode cX7_soonest 4 = .ok (.iload_n 1, 1) := by decide +kernel
theorem dX7_soonest_5 : decode cX7_soonest 5 = .ok (.invokevirtual 101, 3) := by decide +kernel
theorem dX7_soonest_8 : decode cX7_soonest 8 = .ok (.ifCond .ne 9, 3) := by decide +kernel
theorem dX7_soonest_11 : decode cX7_soonest 11 = .ok (.aload_n 0, 1) := by decide +kernel
theorem dX7_soonest_12 : decode cX7_soonest 12 = .ok (.iconst (-1), 1) := by decide +kernel
theorem dX7_soonest_13 : decode cX7_soonest 13 = .ok (.invokevirtual 60, 3) := by decide +kernel
theorem dX7_soonest_16 : decode cX7_soonest 16 = .ok (.ireturn, 1) := by decide +kernel
theorem dX7_soonest_17 : decode cX7_soonest 17 = .ok (.aload_n 0, 1) := by decide +kernel
theorem dX7_soonest_18 : decode cX7_soonest 18 = .ok (.getfield 34, 3) := by decide +kernel
theorem dX7_soonest_21 : decode cX7_soonest 21 = .ok (.invokevirtual 155, 3) := by decide +kernel
theorem dX7_soonest_24 : decode cX7_soonest 24 = .ok (.aload_n 0, 1) := by decide +kernel
theorem dX7_soonest_25 : decode cX7_soonest 25 = .ok (.getfield 34, 3) := by decide +kernel
theorem dX7_soonest_28 : decode cX7_soonest 28 = .ok (.iload_n 1, 1) := by decide +kernel
theorem dX7_soonest_29 : decode cX7_soonest 29 = .ok (.invokevirtual 158, 3) := by decide +kernel
theorem dX7_soonest_32 : decode cX7_soonest 32 = .ok (.ireturn, 1) := by decide +kernel
theorem dX7_over_0 : decode cX7_over 0 = .ok (.aload_n 0, 1) := by decide +kernel
theorem dX7_over_1 : decode cX7_over 1 = .ok (.getfield 10, 3) := by decide +kernel
theorem dX7_over_4 : decode cX7_over 4 = .ok (.iload_n 1, 1) := by decide +kernel
theorem dX7_over_5 : decode cX7_over 5 = .ok (.invokevirtual 101, 3) := by decide +kernel
theorem dX7_over_8 : decode cX7_over 8 = .ok (.ifCond .ne 9, 3) := by decide +kernel
theorem dX7_over_11 : decode cX7_over 11 = .ok (.aload_n 0, 1) := by decide +kernel
theorem dX7_over_12 : decode cX7_over 12 = .ok (.iconst (-1), 1) := by decide +kernel
theorem dX7_over_13 : decode cX7_over 13 = .ok (.invokevirtual 60, 3) := by decide +kernel
theorem dX7_over_16 : decode cX7_over 16 = .ok (.ireturn, 1) := by decide +kernel
theorem dX7_over_17 : decode cX7_over 17 = .ok (.iload_n 2, 1) := by decide +kernel
theorem dX7_over_18 : decode cX7_over 18 = .ok (.iconst (-1), 1) := by decide +kernel
theorem dX7_over_19 : decode cX7_over 19 = .ok (.if_icmp .ge 10, 3) := by decide +kernel
theorem dX7_over_22 : decode cX7_over 22 = .ok (.aload_n 0, 1) := by decide +kernel
theorem dX7_over_23 : decode cX7_over 23 = .ok (.bipush (-4), 2) := by decide +kernel
theorem dX7_over_25 : decode cX7_over 25 = .ok (.invokevirtual 60, 3) := by decide +kernel
theorem dX7_over_28 : decode cX7_over 28 = .ok (.ireturn, 1) := by decide +kernel
theorem dX7_over_29 : decode cX7_over 29 = .ok (.aload_n 0, 1) := by decide +kernel
theorem dX7_over_30 : decode cX7_over 30 = .ok (.getfield 34, 3) := by decide +kernel
theorem dX7_over_33 : decode cX7_over 33 = .ok (.invokevirtual 155, 3) := by decide +kernel
theorem dX7_over_36 : decode cX7_over 36 = .ok (.aload_n 0, 1) := by decide +kernel
theorem dX7_over_37 : decode cX7_over 37 = .ok (.getfield 34, 3) := by decide +kernel
theorem dX7_over_40 : decode cX7_over 40 = .ok (.iload_n 1, 1) := by decide +kernel
theorem dX7_over_41 : decode cX7_over 41 = .ok (.invokevirtual 158, 3) := by decide +kernel
theorem dX7_over_44 : decode cX7_over 44 = .ok (.bipush (-9), 2) := by decide +kernel
theorem dX7_over_46 : decode cX7_over 46 = .ok (.if_icmp .ne 6, 3) := by decide +kernel
theorem dX7_over_49 : decode cX7_over 49 = .ok (.bipush (-9), 2) := by decide +kernel
theorem dX7_over_51 : decode cX7_over 51 = .ok (.ireturn, 1) := by decide +kernel
theorem dX7_over_52 : decode cX7_over 52 = .ok (.aload_n 0, 1) := by decide +kernel
theorem dX7_over_53 : decode cX7_over 53 = .ok (.getfield 34, 3) := by decide +kernel
theorem dX7_over_56 : decode cX7_over 56 = .ok (.iload_n 1, 1) := by decide +kernel
theorem dX7_over_57 : decode cX7_over 57 = .ok (.invokevirtual 161, 3) := by decide +kernel
theorem dX7_over_60 : decode cX7_over 60 = .ok (.iload_n 2, 1) := by decide +kernel
theorem dX7_over_61 : decode cX7_over 61 = .ok (.ifCond .ge 13, 3) := by decide +kernel
theorem dX7_over_64 : decode cX7_over 64 = .ok (.aload_n 0, 1) := by decide +kernel
theorem dX7_over_65 : decode cX7_over 65 = .ok (.getfield 34, 3) := by decide +kernel
theorem dX7_over_68 : decode cX7_over 68 = .ok (.getfield 165, 3) := by decide +kernel
theorem dX7_over_71 : decode cX7_over 71 = .ok (.goto 11, 3) := by decide +kernel
theorem dX7_over_74 : decode cX7_over 74 = .ok (.aload_n 0, 1) := by decide +kernel
theorem dX7_over_75 : decode cX7_over 75 = .ok (.getfield 34, 3) := by decide +kernel
theorem dX7_over_78 : decode cX7_over 78 = .ok (.iload_n 2, 1) := by decide +kernel
theorem dX7_over_79 : decode cX7_over 79 = .ok (.invokevirtual 168, 3) := by decide +kernel
theorem dX7_over_82 : decode cX7_over 82 = .ok (.ireturn, 1) := by decide +kernel
theorem dX7_bars_0 : decode cX7_bars 0 = .ok (.aload_n 0, 1) := by decide +kernel
theorem dX7_bars_1 : decode cX7_bars 1 = .ok (.getfield 10, 3) := by decide +kernel
theorem dX7_bars_4 : decode cX7_bars 4 = .ok (.iload_n 1, 1) := by decide +kernel
theorem dX7_bars_5 : decode cX7_bars 5 = .ok (.invokevirtual 101, 3) := by decide +kernel
theorem dX7_bars_8 : decode cX7_bars 8 = .ok (.ifCond .ne 9, 3) := by decide +kernel
theorem dX7_bars_11 : decode cX7_bars 11 = .ok (.aload_n 0, 1) := by decide +kernel
theorem dX7_bars_12 : decode cX7_bars 12 = .ok (.iconst (-1), 1) := by decide +kernel
theorem dX7_bars_13 : decode cX7_bars 13 = .ok (.invokevirtual 60, 3) := by decide +kernel
theorem dX7_bars_16 : decode cX7_bars 16 = .ok (.ireturn, 1) := by decide +kernel
theorem dX7_bars_17 : decode cX7_bars 17 = .ok (.aload_n 0, 1) := by decide +kernel
theorem dX7_bars_18 : decode cX7_bars 18 = .ok (.getfield 34, 3) := by decide +kernel
theorem dX7_bars_21 : decode cX7_bars 21 = .ok (.invokevirtual 155, 3) := by decide +kernel
theorem dX7_bars_24 : decode cX7_bars 24 = .ok (.aload_n 0, 1) := by decide +kernel
theorem dX7_bars_25 : decode cX7_bars 25 = .ok (.getfield 34, 3) := by decide +kernel
theorem dX7_bars_28 : decode cX7_bars 28 = .ok (.iload_n 1, 1) := by decide +kernel
theorem dX7_bars_29 : decode cX7_bars 29 = .ok (.invokevirtual 171, 3) := by decide +kernel
theorem dX7_bars_32 : decode cX7_bars 32 = .ok (.ireturn, 1) := by decide +kernel
theorem dX7_never_0 : decode cX7_never 0 = .ok (.aload_n 0, 1) := by decide +kernel
theorem dX7_never_1 : decode cX7_never 1 = .ok (.getfield 34, 3) := by decide +kernel
theorem dX7_never_4 : decode cX7_never 4 = .ok (.invokevirtual 155, 3) := by decide +kernel
theorem dX7_never_7 : decode cX7_never 7 = .ok (.iconst 0, 1) := by decide +kernel
theorem dX7_never_8 : decode cX7_never 8 = .ok (.istore_n 1, 1) := by decide +kernel
theorem dX7_never_9 : decode cX7_never 9 = .ok (.iconst 0, 1) := by decide +kernel
theorem dX7_never_10 : decode cX7_never 10 = .ok (.istore_n 2, 1) := by decide +kernel
theorem dX7_never_11 : decode cX7_never 11 = .ok (.iload_n 2, 1) := by decide +kernel
theorem dX7_never_12 : decode cX7_never 12 = .ok (.aload_n 0, 1) := by decide +kernel
theorem dX7_never_13 : decode cX7_never 13 = .ok (.getfield 10, 3) := by decide +kernel
theorem dX7_never_16 : decode cX7_never 16 = .ok (.getfield 140, 3) := by decide +kernel
theorem dX7_never_19 : decode cX7_never 19 = .ok (.if_icmp .ge 28, 3) := by decide +kernel
theorem dX7_never_22 : decode cX7_never 22 = .ok (.aload_n 0, 1) := by decide +kernel
theorem dX7_never_23 : decode cX7_never 23 = .ok (.getfield 34, 3) := by decide +kernel
theorem dX7_never_26 : decode cX7_never 26 = .ok (.iload_n 2, 1) := by decide +kernel
theorem dX7_never_27 : decode cX7_never 27 = .ok (.invokevirtual 158, 3) := by decide +kernel
theorem dX7_never_30 : decode cX7_never 30 = .ok (.bipush (-9), 2) := by decide +kernel
theorem dX7_never_32 : decode cX7_never 32 = .ok (.if_icmp .ne 9, 3) := by decide +kernel
theorem dX7_never_35 : decode cX7_never 35 = .ok (.iload_n 1, 1) := by decide +kernel
theorem dX7_never_36 : decode cX7_never 36 = .ok (.iconst 1, 1) := by decide +kernel
theorem dX7_never_37 : decode cX7_never 37 = .ok (.iload_n 2, 1) := by decide +kernel
theorem dX7_never_38 : decode cX7_never 38 = .ok (.ishl, 1) := by decide +kernel
theorem dX7_never_39 : decode cX7_never 39 = .ok (.ior, 1) := by decide +kernel
theorem dX7_never_40 : decode cX7_never 40 = .ok (.istore_n 1, 1) := by decide +kernel
theorem dX7_never_41 : decode cX7_never 41 = .ok (.iinc 2 1, 3) := by decide +kernel
theorem dX7_never_44 : decode cX7_never 44 = .ok (.goto (-33), 3) := by decide +kernel
theorem dX7_never_47 : decode cX7_never 47 = .ok (.iload_n 1, 1) := by decide +kernel
theorem dX7_never_48 : decode cX7_never 48 = .ok (.ireturn, 1) := by decide +kernel
theorem dX7_why_0 : decode cX7_why 0 = .ok (.aload_n 0, 1) := by decide +kernel
theorem dX7_why_1 : decode cX7_why 1 = .ok (.getfield 10, 3) := by decide +kernel
theorem dX7_why_4 : decode cX7_why 4 = .ok (.iload_n 1, 1) := by decide +kernel
theorem dX7_why_5 : decode cX7_why 5 = .ok (.invokevirtual 101, 3) := by decide +kernel
theorem dX7_why_8 : decode cX7_why 8 = .ok (.ifCond .ne 9, 3) := by decide +kernel
theorem dX7_why_11 : decode cX7_why 11 = .ok (.aload_n 0, 1) := by decide +kernel
theorem dX7_why_12 : decode cX7_why 12 = .ok (.iconst (-1), 1) := by decide +kernel
theorem dX7_why_13 : decode cX7_why 13 = .ok (.invokevirtual 60, 3) := by decide +kernel
theorem dX7_why_16 : decode cX7_why 16 = .ok (.ireturn, 1) := by decide +kernel
theorem dX7_why_17 : decode cX7_why 17 = .ok (.aload_n 0, 1) := by decide +kernel
theorem dX7_why_18 : decode cX7_why 18 = .ok (.getfield 34, 3) := by decide +kernel
theorem dX7_why_21 : decode cX7_why 21 = .ok (.invokevirtual 155, 3) := by decide +kernel
theorem dX7_why_24 : decode cX7_why 24 = .ok (.aload_n 0, 1) := by decide +kernel
theorem dX7_why_25 : decode cX7_why 25 = .ok (.getfield 34, 3) := by decide +kernel
theorem dX7_why_28 : decode cX7_why 28 = .ok (.iload_n 1, 1) := by decide +kernel
theorem dX7_why_29 : decode cX7_why 29 = .ok (.invokevirtual 158, 3) := by decide +kernel
theorem dX7_why_32 : decode cX7_why 32 = .ok (.bipush (-9), 2) := by decide +kernel
theorem dX7_why_34 : decode cX7_why 34 = .ok (.if_icmp .eq 5, 3) := by decide +kernel
theorem dX7_why_37 : decode cX7_why 37 = .ok (.iconst 0, 1) := by decide +kernel
theorem dX7_why_38 : decode cX7_why 38 = .ok (.ireturn, 1) := by decide +kernel
theorem dX7_why_39 : decode cX7_why 39 = .ok (.aload_n 0, 1) := by decide +kernel
theorem dX7_why_40 : decode cX7_why 40 = .ok (.getfield 34, 3) := by decide +kernel
theorem dX7_why_43 : decode cX7_why 43 = .ok (.iload_n 1, 1) := by decide +kernel
theorem dX7_why_44 : decode cX7_why 44 = .ok (.aload_n 0, 1) := by decide +kernel
theorem dX7_why_45 : decode cX7_why 45 = .ok (.getfield 10, 3) := by decide +kernel
theorem dX7_why_48 : decode cX7_why 48 = .ok (.getfield 104, 3) := by decide +kernel
theorem dX7_why_51 : decode cX7_why 51 = .ok (.iload_n 1, 1) := by decide +kernel
theorem dX7_why_52 : decode cX7_why 52 = .ok (.aaload, 1) := by decide +kernel
theorem dX7_why_53 : decode cX7_why 53 = .ok (.getfield 174, 3) := by decide +kernel
theorem dX7_why_56 : decode cX7_why 56 = .ok (.invokevirtual 177, 3) := by decide +kernel
theorem dX7_why_59 : decode cX7_why 59 = .ok (.ifCond .ne 5, 3) := by decide +kernel
theorem dX7_why_62 : decode cX7_why 62 = .ok (.iconst 1, 1) := by decide +kernel
theorem dX7_why_63 : decode cX7_why 63 = .ok (.ireturn, 1) := by decide +kernel
theorem dX7_why_64 : decode cX7_why 64 = .ok (.aload_n 0, 1) := by decide +kernel
theorem dX7_why_65 : decode cX7_why 65 = .ok (.getfield 34, 3) := by decide +kernel
theorem dX7_why_68 : decode cX7_why 68 = .ok (.iload_n 1, 1) := by decide +kernel
theorem dX7_why_69 : decode cX7_why 69 = .ok (.aload_n 0, 1) := by decide +kernel
theorem dX7_why_70 : decode cX7_why 70 = .ok (.getfield 10, 3) := by decide +kernel
theorem dX7_why_73 : decode cX7_why 73 = .ok (.getfield 104, 3) := by decide +kernel
theorem dX7_why_76 : decode cX7_why 76 = .ok (.iload_n 1, 1) := by decide +kernel
theorem dX7_why_77 : decode cX7_why 77 = .ok (.aaload, 1) := by decide +kernel
theorem dX7_why_78 : decode cX7_why 78 = .ok (.getfield 146, 3) := by decide +kernel
theorem dX7_why_81 : decode cX7_why 81 = .ok (.invokevirtual 177, 3) := by decide +kernel
theorem dX7_why_84 : decode cX7_why 84 = .ok (.ifCond .eq 7, 3) := by decide +kernel
theorem dX7_why_87 : decode cX7_why 87 = .ok (.iconst 4, 1) := by decide +kernel
theorem dX7_why_88 : decode cX7_why 88 = .ok (.goto 4, 3) := by decide +kernel
theorem dX7_why_91 : decode cX7_why 91 = .ok (.iconst 2, 1) := by decide +kernel
theorem dX7_why_92 : decode cX7_why 92 = .ok (.ireturn, 1) := by decide +kernel
theorem dX7_round_0 : decode cX7_round 0 = .ok (.aload_n 0, 1) := by decide +kernel
theorem dX7_round_1 : decode cX7_round 1 = .ok (.getfield 10, 3) := by decide +kernel
theorem dX7_round_4 : decode cX7_round 4 = .ok (.iload_n 1, 1) := by decide +kernel
theorem dX7_round_5 : decode cX7_round 5 = .ok (.invokevirtual 86, 3) := by decide +kernel
theorem dX7_round_8 : decode cX7_round 8 = .ok (.ifCond .eq 14, 3) := by decide +kernel
theorem dX7_round_11 : decode cX7_round 11 = .ok (.aload_n 0, 1) := by decide +kernel
theorem dX7_round_12 : decode cX7_round 12 = .ok (.getfield 10, 3) := by decide +kernel
theorem dX7_round_15 : decode cX7_round 15 = .ok (.iload_n 2, 1) := by decide +kernel
theorem dX7_round_16 : decode cX7_round 16 = .ok (.invokevirtual 101, 3) := by decide +kernel
theorem dX7_round_19 : decode cX7_round 19 = .ok (.ifCond .ne 9, 3) := by decide +kernel
theorem dX7_round_22 : decode cX7_round 22 = .ok (.aload_n 0, 1) := by decide +kernel
theorem dX7_round_23 : decode cX7_round 23 = .ok (.iconst (-1), 1) := by decide +kernel
theorem dX7_round_24 : decode cX7_round 24 = .ok (.invokevirtual 60, 3) := by decide +kernel
theorem dX7_round_27 : decode cX7_round 27 = .ok (.ireturn, 1) := by decide +kernel
theorem dX7_round_28 : decode cX7_round 28 = .ok (.iload_n 3, 1) := by decide +kernel
theorem dX7_round_29 : decode cX7_round 29 = .ok (.ifCond .lt 8, 3) := by decide +kernel
theorem dX7_round_32 : decode cX7_round 32 = .ok (.iload_n 3, 1) := by decide +kernel
theorem dX7_round_33 : decode cX7_round 33 = .ok (.iconst 1, 1) := by decide +kernel
theorem dX7_round_34 : decode cX7_round 34 = .ok (.if_icmp .le 10, 3) := by decide +kernel
theorem dX7_round_37 : decode cX7_round 37 = .ok (.aload_n 0, 1) := by decide +kernel
theorem dX7_round_38 : decode cX7_round 38 = .ok (.bipush (-2), 2) := by decide +kernel
theorem dX7_round_40 : decode cX7_round 40 = .ok (.invokevirtual 60, 3) := by decide +kernel
theorem dX7_round_43 : decode cX7_round 43 = .ok (.ireturn, 1) := by decide +kernel
theorem dX7_round_44 : decode cX7_round 44 = .ok (.aload_n 0, 1) := by decide +kernel
theorem dX7_round_45 : decode cX7_round 45 = .ok (.getfield 10, 3) := by decide +kernel
theorem dX7_round_48 : decode cX7_round 48 = .ok (.iload_n 1, 1) := by decide +kernel
theorem dX7_round_49 : decode cX7_round 49 = .ok (.iload_n 2, 1) := by decide +kernel
theorem dX7_round_50 : decode cX7_round 50 = .ok (.invokevirtual 180, 3) := by decide +kernel
theorem dX7_round_53 : decode cX7_round 53 = .ok (.istore 4, 2) := by decide +kernel
theorem dX7_round_55 : decode cX7_round 55 = .ok (.iload 4, 2) := by decide +kernel
theorem dX7_round_57 : decode cX7_round 57 = .ok (.bipush (-9), 2) := by decide +kernel
theorem dX7_round_59 : decode cX7_round 59 = .ok (.if_icmp .eq 7, 3) := by decide +kernel
theorem dX7_round_62 : decode cX7_round 62 = .ok (.iload_n 3, 1) := by decide +kernel
theorem dX7_round_63 : decode cX7_round 63 = .ok (.ifCond .ne 8, 3) := by decide +kernel
theorem dX7_round_66 : decode cX7_round 66 = .ok (.iload 4, 2) := by decide +kernel
theorem dX7_round_68 : decode cX7_round 68 = .ok (.goto 12, 3) := by decide +kernel
theorem dX7_round_71 : decode cX7_round 71 = .ok (.aload_n 0, 1) := by decide +kernel
theorem dX7_round_72 : decode cX7_round 72 = .ok (.getfield 10, 3) := by decide +kernel
theorem dX7_round_75 : decode cX7_round 75 = .ok (.iload_n 1, 1) := by decide +kernel
theorem dX7_round_76 : decode cX7_round 76 = .ok (.iload_n 2, 1) := by decide +kernel
theorem dX7_round_77 : decode cX7_round 77 = .ok (.invokevirtual 183, 3) := by decide +kernel
theorem dX7_round_80 : decode cX7_round 80 = .ok (.ireturn, 1) := by decide +kernel
theorem dX7_each_0 : decode cX7_each 0 = .ok (.iload_n 1, 1) := by decide +kernel
theorem dX7_each_1 : decode cX7_each 1 = .ok (.iconst (-1), 1) := by decide +kernel
theorem dX7_each_2 : decode cX7_each 2 = .ok (.if_icmp .eq 20, 3) := by decide +kernel
theorem dX7_each_5 : decode cX7_each 5 = .ok (.aload_n 0, 1) := by decide +kernel
theorem dX7_each_6 : decode cX7_each 6 = .ok (.getfield 10, 3) := by decide +kernel
theorem dX7_each_9 : decode cX7_each 9 = .ok (.iload_n 1, 1) := by decide +kernel
theorem dX7_each_10 : decode cX7_each 10 = .ok (.invokevirtual 86, 3) := by decide +kernel
theorem dX7_each_13 : decode cX7_each 13 = .ok (.ifCond .ne 9, 3) := by decide +kernel
theorem dX7_each_16 : decode cX7_each 16 = .ok (.aload_n 0, 1) := by decide +kernel
theorem dX7_each_17 : decode cX7_each 17 = .ok (.iconst (-1), 1) := by decide +kernel
theorem dX7_each_18 : decode cX7_each 18 = .ok (.invokevirtual 60, 3) := by decide +kernel
theorem dX7_each_21 : decode cX7_each 21 = .ok (.ireturn, 1) := by decide +kernel
theorem dX7_each_22 : decode cX7_each 22 = .ok (.aload_n 0, 1) := by decide +kernel
theorem dX7_each_23 : decode cX7_each 23 = .ok (.getfield 41, 3) := by decide +kernel
theorem dX7_each_26 : decode cX7_each 26 = .ok (.aload_n 0, 1) := by decide +kernel
theorem dX7_each_27 : decode cX7_each 27 = .ok (.getfield 10, 3) := by decide +kernel
theorem dX7_each_30 : decode cX7_each 30 = .ok (.bipush (-9), 2) := by decide +kernel
theorem dX7_each_32 : decode cX7_each 32 = .ok (.invokevirtual 186, 3) := by decide +kernel
theorem dX7_each_35 : decode cX7_each 35 = .ok (.istore_n 2, 1) := by decide +kernel
theorem dX7_each_36 : decode cX7_each 36 = .ok (.iload_n 1, 1) := by decide +kernel
theorem dX7_each_37 : decode cX7_each 37 = .ok (.ifCond .ge 7, 3) := by decide +kernel
theorem dX7_each_40 : decode cX7_each 40 = .ok (.iload_n 2, 1) := by decide +kernel
theorem dX7_each_41 : decode cX7_each 41 = .ok (.goto 15, 3) := by decide +kernel
theorem dX7_each_44 : decode cX7_each 44 = .ok (.aload_n 0, 1) := by decide +kernel
theorem dX7_each_45 : decode cX7_each 45 = .ok (.getfield 41, 3) := by decide +kernel
theorem dX7_each_48 : decode cX7_each 48 = .ok (.aload_n 0, 1) := by decide +kernel
theorem dX7_each_49 : decode cX7_each 49 = .ok (.getfield 10, 3) := by decide +kernel
theorem dX7_each_52 : decode cX7_each 52 = .ok (.iload_n 1, 1) := by decide +kernel
theorem dX7_each_53 : decode cX7_each 53 = .ok (.invokevirtual 190, 3) := by decide +kernel
theorem dX7_each_56 : decode cX7_each 56 = .ok (.ireturn, 1) := by decide +kernel
theorem dX7_pay_0 : decode cX7_pay 0 = .ok (.aload_n 0, 1) := by decide +kernel
theorem dX7_pay_1 : decode cX7_pay 1 = .ok (.getfield 10, 3) := by decide +kernel
theorem dX7_pay_4 : decode cX7_pay 4 = .ok (.iload_n 1, 1) := by decide +kernel
theorem dX7_pay_5 : decode cX7_pay 5 = .ok (.invokevirtual 86, 3) := by decide +kernel
theorem dX7_pay_8 : decode cX7_pay 8 = .ok (.ifCond .ne 9, 3) := by decide +kernel
theorem dX7_pay_11 : decode cX7_pay 11 = .ok (.aload_n 0, 1) := by decide +kernel
theorem dX7_pay_12 : decode cX7_pay 12 = .ok (.iconst (-1), 1) := by decide +kernel
theorem dX7_pay_13 : decode cX7_pay 13 = .ok (.invokevirtual 60, 3) := by decide +kernel
theorem dX7_pay_16 : decode cX7_pay 16 = .ok (.ireturn, 1) := by decide +kernel
theorem dX7_pay_17 : decode cX7_pay 17 = .ok (.aload_n 0, 1) := by decide +kernel
theorem dX7_pay_18 : decode cX7_pay 18 = .ok (.getfield 41, 3) := by decide +kernel
theorem dX7_pay_21 : decode cX7_pay 21 = .ok (.aload_n 0, 1) := by decide +kernel
theorem dX7_pay_22 : decode cX7_pay 22 = .ok (.getfield 10, 3) := by decide +kernel
theorem dX7_pay_25 : decode cX7_pay 25 = .ok (.bipush (-9), 2) := by decide +kernel
theorem dX7_pay_27 : decode cX7_pay 27 = .ok (.invokevirtual 186, 3) := by decide +kernel
theorem dX7_pay_30 : decode cX7_pay 30 = .ok (.aload_n 0, 1) := by decide +kernel
theorem dX7_pay_31 : decode cX7_pay 31 = .ok (.getfield 41, 3) := by decide +kernel
theorem dX7_pay_34 : decode cX7_pay 34 = .ok (.aload_n 0, 1) := by decide +kernel
theorem dX7_pay_35 : decode cX7_pay 35 = .ok (.getfield 10, 3) := by decide +kernel
theorem dX7_pay_38 : decode cX7_pay 38 = .ok (.iload_n 1, 1) := by decide +kernel
theorem dX7_pay_39 : decode cX7_pay 39 = .ok (.invokevirtual 186, 3) := by decide +kernel
theorem dX7_pay_42 : decode cX7_pay 42 = .ok (.isub, 1) := by decide +kernel
theorem dX7_pay_43 : decode cX7_pay 43 = .ok (.ireturn, 1) := by decide +kernel
theorem dX7_fewest_0 : decode cX7_fewest 0 = .ok (.aload_n 0, 1) := by decide +kernel
theorem dX7_fewest_1 : decode cX7_fewest 1 = .ok (.getfield 34, 3) := by decide +kernel
theorem dX7_fewest_4 : decode cX7_fewest 4 = .ok (.invokevirtual 155, 3) := by decide +kernel
theorem dX7_fewest_7 : decode cX7_fewest 7 = .ok (.iconst 0, 1) := by decide +kernel
theorem dX7_fewest_8 : decode cX7_fewest 8 = .ok (.istore_n 1, 1) := by decide +kernel
theorem dX7_fewest_9 : decode cX7_fewest 9 = .ok (.iconst 0, 1) := by decide +kernel
theorem dX7_fewest_10 : decode cX7_fewest 10 = .ok (.istore_n 2, 1) := by decide +kernel
theorem dX7_fewest_11 : decode cX7_fewest 11 = .ok (.iload_n 2, 1) := by decide +kernel
theorem dX7_fewest_12 : decode cX7_fewest 12 = .ok (.aload_n 0, 1) := by decide +kernel
theorem dX7_fewest_13 : decode cX7_fewest 13 = .ok (.getfield 10, 3) := by decide +kernel
theorem dX7_fewest_16 : decode cX7_fewest 16 = .ok (.getfield 140, 3) := by decide +kernel
theorem dX7_fewest_19 : decode cX7_fewest 19 = .ok (.if_icmp .ge 40, 3) := by decide +kernel
theorem dX7_fewest_22 : decode cX7_fewest 22 = .ok (.aload_n 0, 1) := by decide +kernel
theorem dX7_fewest_23 : decode cX7_fewest 23 = .ok (.getfield 34, 3) := by decide +kernel
theorem dX7_fewest_26 : decode cX7_fewest 26 = .ok (.iload_n 2, 1) := by decide +kernel
theorem dX7_fewest_27 : decode cX7_fewest 27 = .ok (.invokevirtual 193, 3) := by decide +kernel
theorem dX7_fewest_30 : decode cX7_fewest 30 = .ok (.ifCond .eq 6, 3) := by decide +kernel
theorem dX7_fewest_33 : decode cX7_fewest 33 = .ok (.goto 20, 3) := by decide +kernel
theorem dX7_fewest_36 : decode cX7_fewest 36 = .ok (.aload_n 0, 1) := by decide +kernel
theorem dX7_fewest_37 : decode cX7_fewest 37 = .ok (.getfield 10, 3) := by decide +kernel
theorem dX7_fewest_40 : decode cX7_fewest 40 = .ok (.iload_n 2, 1) := by decide +kernel
theorem dX7_fewest_41 : decode cX7_fewest 41 = .ok (.invokevirtual 196, 3) := by decide +kernel
theorem dX7_fewest_44 : decode cX7_fewest 44 = .ok (.ifCond .ne 6, 3) := by decide +kernel
theorem dX7_fewest_47 : decode cX7_fewest 47 = .ok (.bipush (-9), 2) := by decide +kernel
theorem dX7_fewest_49 : decode cX7_fewest 49 = .ok (.ireturn, 1) := by decide +kernel
theorem dX7_fewest_50 : decode cX7_fewest 50 = .ok (.iinc 1 1, 3) := by decide +kernel
theorem dX7_fewest_53 : decode cX7_fewest 53 = .ok (.iinc 2 1, 3) := by decide +kernel
theorem dX7_fewest_56 : decode cX7_fewest 56 = .ok (.goto (-45), 3) := by decide +kernel
theorem dX7_fewest_59 : decode cX7_fewest 59 = .ok (.iload_n 1, 1) := by decide +kernel
theorem dX7_fewest_60 : decode cX7_fewest 60 = .ok (.ireturn, 1) := by decide +kernel
theorem dX7_beside_0 : decode cX7_beside 0 = .ok (.aload_n 0, 1) := by decide +kernel
theorem dX7_beside_1 : decode cX7_beside 1 = .ok (.getfield 34, 3) := by decide +kernel
theorem dX7_beside_4 : decode cX7_beside 4 = .ok (.invokevirtual 155, 3) := by decide +kernel
theorem dX7_beside_7 : decode cX7_beside 7 = .ok (.aload_n 0, 1) := by decide +kernel
theorem dX7_beside_8 : decode cX7_beside 8 = .ok (.getfield 34, 3) := by decide +kernel
theorem dX7_beside_11 : decode cX7_beside 11 = .ok (.invokevirtual 199, 3) := by decide +kernel
theorem dX7_beside_14 : decode cX7_beside 14 = .ok (.istore_n 1, 1) := by decide +kernel
theorem dX7_beside_15 : decode cX7_beside 15 = .ok (.aload_n 0, 1) := by decide +kernel
theorem dX7_beside_16 : decode cX7_beside 16 = .ok (.getfield 34, 3) := by decide +kernel
theorem dX7_beside_19 : decode cX7_beside 19 = .ok (.iconst 3, 1) := by decide +kernel
theorem dX7_beside_20 : decode cX7_beside 20 = .ok (.putfield 202, 3) := by decide +kernel
theorem dX7_beside_23 : decode cX7_beside 23 = .ok (.iload_n 1, 1) := by decide +kernel
theorem dX7_beside_24 : decode cX7_beside 24 = .ok (.aload_n 0, 1) := by decide +kernel
theorem dX7_beside_25 : decode cX7_beside 25 = .ok (.getfield 34, 3) := by decide +kernel
theorem dX7_beside_28 : decode cX7_beside 28 = .ok (.invokevirtual 199, 3) := by decide +kernel
theorem dX7_beside_31 : decode cX7_beside 31 = .ok (.isub, 1) := by decide +kernel
theorem dX7_beside_32 : decode cX7_beside 32 = .ok (.ireturn, 1) := by decide +kernel
theorem dX7_houses_0 : decode cX7_houses 0 = .ok (.aload_n 0, 1) := by decide +kernel
theorem dX7_houses_1 : decode cX7_houses 1 = .ok (.getfield 34, 3) := by decide +kernel
theorem dX7_houses_4 : decode cX7_houses 4 = .ok (.invokevirtual 155, 3) := by decide +kernel
theorem dX7_houses_7 : decode cX7_houses 7 = .ok (.aload_n 0, 1) := by decide +kernel
theorem dX7_houses_8 : decode cX7_houses 8 = .ok (.getfield 34, 3) := by decide +kernel
theorem dX7_houses_11 : decode cX7_houses 11 = .ok (.invokevirtual 205, 3) := by decide +kernel
theorem dX7_houses_14 : decode cX7_houses 14 = .ok (.ireturn, 1) := by decide +kernel
theorem dX7_days_0 : decode cX7_days 0 = .ok (.iload_n 1, 1) := by decide +kernel
theorem dX7_days_1 : decode cX7_days 1 = .ok (.iconst 1, 1) := by decide +kernel
theorem dX7_days_2 : decode cX7_days 2 = .ok (.if_icmp .ge 10, 3) := by decide +kernel
theorem dX7_days_5 : decode cX7_days 5 = .ok (.aload_n 0, 1) := by decide +kernel
theorem dX7_days_6 : decode cX7_days 6 = .ok (.bipush (-4), 2) := by decide +kernel
theorem dX7_days_8 : decode cX7_days 8 = .ok (.invokevirtual 60, 3) := by decide +kernel
theorem dX7_days_11 : decode cX7_days 11 = .ok (.ireturn, 1) := by decide +kernel
theorem dX7_days_12 : decode cX7_days 12 = .ok (.iload_n 1, 1) := by decide +kernel
theorem dX7_days_13 : decode cX7_days 13 = .ok (.bipush 14, 2) := by decide +kernel
theorem dX7_days_15 : decode cX7_days 15 = .ok (.if_icmp .le 10, 3) := by decide +kernel
theorem dX7_days_18 : decode cX7_days 18 = .ok (.aload_n 0, 1) := by decide +kernel
theorem dX7_days_19 : decode cX7_days 19 = .ok (.bipush (-6), 2) := by decide +kernel
theorem dX7_days_21 : decode cX7_days 21 = .ok (.invokevirtual 60, 3) := by decide +kernel
theorem dX7_days_24 : decode cX7_days 24 = .ok (.ireturn, 1) := by decide +kernel
theorem dX7_days_25 : decode cX7_days 25 = .ok (.aload_n 0, 1) := by decide +kernel
theorem dX7_days_26 : decode cX7_days 26 = .ok (.getfield 34, 3) := by decide +kernel
theorem dX7_days_29 : decode cX7_days 29 = .ok (.invokevirtual 155, 3) := by decide +kernel
theorem dX7_days_32 : decode cX7_days 32 = .ok (.aload_n 0, 1) := by decide +kernel
theorem dX7_days_33 : decode cX7_days 33 = .ok (.getfield 34, 3) := by decide +kernel
theorem dX7_days_36 : decode cX7_days 36 = .ok (.iload_n 1, 1) := by decide +kernel
theorem dX7_days_37 : decode cX7_days 37 = .ok (.iload_n 2, 1) := by decide +kernel
theorem dX7_days_38 : decode cX7_days 38 = .ok (.invokevirtual 208, 3) := by decide +kernel
theorem dX7_days_41 : decode cX7_days 41 = .ok (.ireturn, 1) := by decide +kernel
theorem dX7_row_0 : decode cX7_row 0 = .ok (.iload_n 1, 1) := by decide +kernel
theorem dX7_row_1 : decode cX7_row 1 = .ok (.ifCond .ge 10, 3) := by decide +kernel
theorem dX7_row_4 : decode cX7_row 4 = .ok (.aload_n 0, 1) := by decide +kernel
theorem dX7_row_5 : decode cX7_row 5 = .ok (.bipush (-4), 2) := by decide +kernel
theorem dX7_row_7 : decode cX7_row 7 = .ok (.invokevirtual 60, 3) := by decide +kernel
theorem dX7_row_10 : decode cX7_row 10 = .ok (.ireturn, 1) := by decide +kernel
theorem dX7_row_11 : decode cX7_row 11 = .ok (.iload_n 1, 1) := by decide +kernel
theorem dX7_row_12 : decode cX7_row 12 = .ok (.bipush 9, 2) := by decide +kernel
theorem dX7_row_14 : decode cX7_row 14 = .ok (.if_icmp .gt 15, 3) := by decide +kernel
theorem dX7_row_17 : decode cX7_row 17 = .ok (.aload_n 0, 1) := by decide +kernel
theorem dX7_row_18 : decode cX7_row 18 = .ok (.getfield 52, 3) := by decide +kernel
theorem dX7_row_21 : decode cX7_row 21 = .ok (.aload_n 0, 1) := by decide +kernel
theorem dX7_row_22 : decode cX7_row 22 = .ok (.getfield 45, 3) := by decide +kernel
theorem dX7_row_25 : decode cX7_row 25 = .ok (.arraylength, 1) := by decide +kernel
theorem dX7_row_26 : decode cX7_row 26 = .ok (.if_icmp .lt 10, 3) := by decide +kernel
theorem dX7_row_29 : decode cX7_row 29 = .ok (.aload_n 0, 1) := by decide +kernel
theorem dX7_row_30 : decode cX7_row 30 = .ok (.bipush (-6), 2) := by decide +kernel
theorem dX7_row_32 : decode cX7_row 32 = .ok (.invokevirtual 60, 3) := by decide +kernel
theorem dX7_row_35 : decode cX7_row 35 = .ok (.ireturn, 1) := by decide +kernel
theorem dX7_row_36 : decode cX7_row 36 = .ok (.aload_n 0, 1) := by decide +kernel
theorem dX7_row_37 : decode cX7_row 37 = .ok (.getfield 45, 3) := by decide +kernel
theorem dX7_row_40 : decode cX7_row 40 = .ok (.aload_n 0, 1) := by decide +kernel
theorem dX7_row_41 : decode cX7_row 41 = .ok (.getfield 52, 3) := by decide +kernel
theorem dX7_row_44 : decode cX7_row 44 = .ok (.iload_n 1, 1) := by decide +kernel
theorem dX7_row_45 : decode cX7_row 45 = .ok (.iastore, 1) := by decide +kernel
theorem dX7_row_46 : decode cX7_row 46 = .ok (.aload_n 0, 1) := by decide +kernel
theorem dX7_row_47 : decode cX7_row 47 = .ok (.dup, 1) := by decide +kernel
theorem dX7_row_48 : decode cX7_row 48 = .ok (.getfield 52, 3) := by decide +kernel
theorem dX7_row_51 : decode cX7_row 51 = .ok (.iconst 1, 1) := by decide +kernel
theorem dX7_row_52 : decode cX7_row 52 = .ok (.iadd, 1) := by decide +kernel
theorem dX7_row_53 : decode cX7_row 53 = .ok (.putfield 52, 3) := by decide +kernel
theorem dX7_row_56 : decode cX7_row 56 = .ok (.aload_n 0, 1) := by decide +kernel
theorem dX7_row_57 : decode cX7_row 57 = .ok (.getfield 52, 3) := by decide +kernel
theorem dX7_row_60 : decode cX7_row 60 = .ok (.ireturn, 1) := by decide +kernel
theorem dX7_judge_0 : decode cX7_judge 0 = .ok (.aload_n 0, 1) := by decide +kernel
theorem dX7_judge_1 : decode cX7_judge 1 = .ok (.invokevirtual 211, 3) := by decide +kernel
theorem dX7_judge_4 : decode cX7_judge 4 = .ok (.istore_n 1, 1) := by decide +kernel
theorem dX7_judge_5 : decode cX7_judge 5 = .ok (.aload_n 0, 1) := by decide +kernel
theorem dX7_judge_6 : decode cX7_judge 6 = .ok (.iconst 0, 1) := by decide +kernel
theorem dX7_judge_7 : decode cX7_judge 7 = .ok (.putfield 52, 3) := by decide +kernel
theorem dX7_judge_10 : decode cX7_judge 10 = .ok (.iload_n 1, 1) := by decide +kernel
theorem dX7_judge_11 : decode cX7_judge 11 = .ok (.ireturn, 1) := by decide +kernel
theorem dX7_image_0 : decode cX7_image 0 = .ok (.aload_n 0, 1) := by decide +kernel
theorem dX7_image_1 : decode cX7_image 1 = .ok (.getfield 19, 3) := by decide +kernel
theorem dX7_image_4 : decode cX7_image 4 = .ok (.aload_n 0, 1) := by decide +kernel
theorem dX7_image_5 : decode cX7_image 5 = .ok (.getfield 10, 3) := by decide +kernel
theorem dX7_image_8 : decode cX7_image 8 = .ok (.invokevirtual 214, 3) := by decide +kernel
theorem dX7_image_11 : decode cX7_image 11 = .ok (.aload_n 0, 1) := by decide +kernel
theorem dX7_image_12 : decode cX7_image 12 = .ok (.iconst 1, 1) := by decide +kernel
theorem dX7_image_13 : decode cX7_image 13 = .ok (.putfield 56, 3) := by decide +kernel
theorem dX7_image_16 : decode cX7_image 16 = .ok (.aload_n 0, 1) := by decide +kernel
theorem dX7_image_17 : decode cX7_image 17 = .ok (.getfield 10, 3) := by decide +kernel
theorem dX7_image_20 : decode cX7_image 20 = .ok (.getfield 140, 3) := by decide +kernel
theorem dX7_image_23 : decode cX7_image 23 = .ok (.ireturn, 1) := by decide +kernel
theorem dX7_on_0 : decode cX7_on 0 = .ok (.aload_n 0, 1) := by decide +kernel
theorem dX7_on_1 : decode cX7_on 1 = .ok (.getfield 56, 3) := by decide +kernel
theorem dX7_on_4 : decode cX7_on 4 = .ok (.ifCond .ne 10, 3) := by decide +kernel
theorem dX7_on_7 : decode cX7_on 7 = .ok (.aload_n 0, 1) := by decide +kernel
theorem dX7_on_8 : decode cX7_on 8 = .ok (.bipush (-3), 2) := by decide +kernel
theorem dX7_on_10 : decode cX7_on 10 = .ok (.invokevirtual 60, 3) := by decide +kernel
theorem dX7_on_13 : decode cX7_on 13 = .ok (.ireturn, 1) := by decide +kernel
theorem dX7_on_14 : decode cX7_on 14 = .ok (.aload_n 0, 1) := by decide +kernel
theorem dX7_on_15 : decode cX7_on 15 = .ok (.getfield 10, 3) := by decide +kernel
theorem dX7_on_18 : decode cX7_on 18 = .ok (.aload_n 0, 1) := by decide +kernel
theorem dX7_on_19 : decode cX7_on 19 = .ok (.getfield 19, 3) := by decide +kernel
theorem dX7_on_22 : decode cX7_on 22 = .ok (.invokevirtual 214, 3) := by decide +kernel
theorem dX7_on_25 : decode cX7_on 25 = .ok (.aload_n 0, 1) := by decide +kernel
theorem dX7_on_26 : decode cX7_on 26 = .ok (.getfield 10, 3) := by decide +kernel
theorem dX7_on_29 : decode cX7_on 29 = .ok (.getfield 140, 3) := by decide +kernel
theorem dX7_on_32 : decode cX7_on 32 = .ok (.ireturn, 1) := by decide +kernel
theorem dX7_count_0 : decode cX7_count 0 = .ok (.iload_n 1, 1) := by decide +kernel
theorem dX7_count_1 : decode cX7_count 1 = .ok (.bipush 10, 2) := by decide +kernel
theorem dX7_count_3 : decode cX7_count 3 = .ok (.if_icmp .le 25, 3) := by decide +kernel
theorem dX7_count_6 : decode cX7_count 6 = .ok (.iload_n 1, 1) := by decide +kernel
