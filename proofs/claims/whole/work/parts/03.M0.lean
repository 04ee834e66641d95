theorem dX8_init_0 : decode cX8_init 0 = .ok (.aload_n 0, 1) := by decide +kernel
theorem dX8_init_1 : decode cX8_init 1 = .ok (.invokespecial 1, 3) := by decide +kernel
theorem dX8_init_4 : decode cX8_init 4 = .ok (.aload_n 0, 1) := by decide +kernel
theorem dX8_init_5 : decode cX8_init 5 = .ok (.bipush 64, 2) := by decide +kernel
theorem dX8_init_7 : decode cX8_init 7 = .ok (.newarray .int, 2) := by decide +kernel
theorem dX8_init_9 : decode cX8_init 9 = .ok (.putfield 9, 3) := by decide +kernel
theorem dX8_init_12 : decode cX8_init 12 = .ok (.aload_n 0, 1) := by decide +kernel
theorem dX8_init_13 : decode cX8_init 13 = .ok (.bipush 6, 2) := by decide +kernel
theorem dX8_init_15 : decode cX8_init 15 = .ok (.newarray .int, 2) := by decide +kernel
theorem dX8_init_17 : decode cX8_init 17 = .ok (.putfield 13, 3) := by decide +kernel
theorem dX8_init_20 : decode cX8_init 20 = .ok (.aload_n 0, 1) := by decide +kernel
theorem dX8_init_21 : decode cX8_init 21 = .ok (.bipush 8, 2) := by decide +kernel
theorem dX8_init_23 : decode cX8_init 23 = .ok (.newarray .int, 2) := by decide +kernel
theorem dX8_init_25 : decode cX8_init 25 = .ok (.putfield 16, 3) := by decide +kernel
theorem dX8_init_28 : decode cX8_init 28 = .ok (.aload_n 0, 1) := by decide +kernel
theorem dX8_init_29 : decode cX8_init 29 = .ok (.iconst 4, 1) := by decide +kernel
theorem dX8_init_30 : decode cX8_init 30 = .ok (.putfield 19, 3) := by decide +kernel
theorem dX8_init_33 : decode cX8_init 33 = .ok (.aload_n 0, 1) := by decide +kernel
theorem dX8_init_34 : decode cX8_init 34 = .ok (.bipush 7, 2) := by decide +kernel
theorem dX8_init_36 : decode cX8_init 36 = .ok (.bipush 7, 2) := by decide +kernel
theorem dX8_init_38 : decode cX8_init 38 = .ok (.multianewarray 23 2, 4) := by decide +kernel
theorem dX8_init_42 : decode cX8_init 42 = .ok (.putfield 25, 3) := by decide +kernel
theorem dX8_init_45 : decode cX8_init 45 = .ok (.aload_n 0, 1) := by decide +kernel
theorem dX8_init_46 : decode cX8_init 46 = .ok (.bipush 6, 2) := by decide +kernel
theorem dX8_init_48 : decode cX8_init 48 = .ok (.bipush 7, 2) := by decide +kernel
theorem dX8_init_50 : decode cX8_init 50 = .ok (.multianewarray 23 2, 4) := by decide +kernel
theorem dX8_init_54 : decode cX8_init 54 = .ok (.putfield 28, 3) := by decide +kernel
theorem dX8_init_57 : decode cX8_init 57 = .ok (.aload_n 0, 1) := by decide +kernel
theorem dX8_init_58 : decode cX8_init 58 = .ok (.bipush 6, 2) := by decide +kernel
theorem dX8_init_60 : decode cX8_init 60 = .ok (.bipush 10, 2) := by decide +kernel
theorem dX8_init_62 : decode cX8_init 62 = .ok (.multianewarray 23 2, 4) := by decide +kernel
theorem dX8_init_66 : decode cX8_init 66 = .ok (.putfield 31, 3) := by decide +kernel
theorem dX8_init_69 : decode cX8_init 69 = .ok (.aload_n 0, 1) := by decide +kernel
theorem dX8_init_70 : decode cX8_init 70 = .ok (.bipush 7, 2) := by decide +kernel
theorem dX8_init_72 : decode cX8_init 72 = .ok (.newarray .int, 2) := by decide +kernel
theorem dX8_init_74 : decode cX8_init 74 = .ok (.putfield 34, 3) := by decide +kernel
theorem dX8_init_77 : decode cX8_init 77 = .ok (.aload_n 0, 1) := by decide +kernel
theorem dX8_init_78 : decode cX8_init 78 = .ok (.bipush 7, 2) := by decide +kernel
theorem dX8_init_80 : decode cX8_init 80 = .ok (.bipush 7, 2) := by decide +kernel
theorem dX8_init_82 : decode cX8_init 82 = .ok (.multianewarray 23 2, 4) := by decide +kernel
theorem dX8_init_86 : decode cX8_init 86 = .ok (.putfield 37, 3) := by decide +kernel
theorem dX8_init_89 : decode cX8_init 89 = .ok (.aload_n 0, 1) := by decide +kernel
theorem dX8_init_90 : decode cX8_init 90 = .ok (.bipush 6, 2) := by decide +kernel
theorem dX8_init_92 : decode cX8_init 92 = .ok (.bipush 7, 2) := by decide +kernel
theorem dX8_init_94 : decode cX8_init 94 = .ok (.multianewarray 23 2, 4) := by decide +kernel
theorem dX8_init_98 : decode cX8_init 98 = .ok (.putfield 40, 3) := by decide +kernel
theorem dX8_init_101 : decode cX8_init 101 = .ok (.aload_n 0, 1) := by decide +kernel
theorem dX8_init_102 : decode cX8_init 102 = .ok (.bipush 6, 2) := by decide +kernel
theorem dX8_init_104 : decode cX8_init 104 = .ok (.bipush 7, 2) := by decide +kernel
theorem dX8_init_106 : decode cX8_init 106 = .ok (.multianewarray 23 2, 4) := by decide +kernel
theorem dX8_init_110 : decode cX8_init 110 = .ok (.putfield 43, 3) := by decide +kernel
theorem dX8_init_113 : decode cX8_init 113 = .ok (.aload_n 0, 1) := by decide +kernel
theorem dX8_init_114 : decode cX8_init 114 = .ok (.bipush 6, 2) := by decide +kernel
theorem dX8_init_116 : decode cX8_init 116 = .ok (.newarray .int, 2) := by decide +kernel
theorem dX8_init_118 : decode cX8_init 118 = .ok (.putfield 46, 3) := by decide +kernel
theorem dX8_init_121 : decode cX8_init 121 = .ok (.aload_n 0, 1) := by decide +kernel
theorem dX8_init_122 : decode cX8_init 122 = .ok (.bipush 7, 2) := by decide +kernel
theorem dX8_init_124 : decode cX8_init 124 = .ok (.newarray .int, 2) := by decide +kernel
theorem dX8_init_126 : decode cX8_init 126 = .ok (.putfield 49, 3) := by decide +kernel
theorem dX8_init_129 : decode cX8_init 129 = .ok (.aload_n 0, 1) := by decide +kernel
theorem dX8_init_130 : decode cX8_init 130 = .ok (.bipush 7, 2) := by decide +kernel
theorem dX8_init_132 : decode cX8_init 132 = .ok (.newarray .int, 2) := by decide +kernel
theorem dX8_init_134 : decode cX8_init 134 = .ok (.putfield 52, 3) := by decide +kernel
theorem dX8_init_137 : decode cX8_init 137 = .ok (.aload_n 0, 1) := by decide +kernel
theorem dX8_init_138 : decode cX8_init 138 = .ok (.bipush 6, 2) := by decide +kernel
theorem dX8_init_140 : decode cX8_init 140 = .ok (.newarray .int, 2) := by decide +kernel
theorem dX8_init_142 : decode cX8_init 142 = .ok (.putfield 55, 3) := by decide +kernel
theorem dX8_init_145 : decode cX8_init 145 = .ok (.aload_n 0, 1) := by decide +kernel
theorem dX8_init_146 : decode cX8_init 146 = .ok (.bipush 6, 2) := by decide +kernel
theorem dX8_init_148 : decode cX8_init 148 = .ok (.newarray .int, 2) := by decide +kernel
theorem dX8_init_150 : decode cX8_init 150 = .ok (.putfield 58, 3) := by decide +kernel
theorem dX8_init_153 : decode cX8_init 153 = .ok (.return_, 1) := by decide +kernel
theorem dX8_refuse_0 : decode cX8_refuse 0 = .ok (.aload_n 0, 1) := by decide +kernel
theorem dX8_refuse_1 : decode cX8_refuse 1 = .ok (.getfield 16, 3) := by decide +kernel
theorem dX8_refuse_4 : decode cX8_refuse 4 = .ok (.iload_n 1, 1) := by decide +kernel
theorem dX8_refuse_5 : decode cX8_refuse 5 = .ok (.ineg, 1) := by decide +kernel
theorem dX8_refuse_6 : decode cX8_refuse 6 = .ok (.dup2, 1) := by decide +kernel
theorem dX8_refuse_7 : decode cX8_refuse 7 = .ok (.iaload, 1) := by decide +kernel
theorem dX8_refuse_8 : decode cX8_refuse 8 = .ok (.iconst 1, 1) := by decide +kernel
theorem dX8_refuse_9 : decode cX8_refuse 9 = .ok (.iadd, 1) := by decide +kernel
theorem dX8_refuse_10 : decode cX8_refuse 10 = .ok (.iastore, 1) := by decide +kernel
theorem dX8_refuse_11 : decode cX8_refuse 11 = .ok (.iload_n 1, 1) := by decide +kernel
theorem dX8_refuse_12 : decode cX8_refuse 12 = .ok (.ireturn, 1) := by decide +kernel
theorem dX8_in_0 : decode cX8_in 0 = .ok (.iload_n 0, 1) := by decide +kernel
theorem dX8_in_1 : decode cX8_in 1 = .ok (.iload_n 1, 1) := by decide +kernel
theorem dX8_in_2 : decode cX8_in 2 = .ok (.if_icmp .lt 12, 3) := by decide +kernel
theorem dX8_in_5 : decode cX8_in 5 = .ok (.iload_n 0, 1) := by decide +kernel
theorem dX8_in_6 : decode cX8_in 6 = .ok (.iload_n 2, 1) := by decide +kernel
theorem dX8_in_7 : decode cX8_in 7 = .ok (.if_icmp .gt 7, 3) := by decide +kernel
theorem dX8_in_10 : decode cX8_in 10 = .ok (.iconst 1, 1) := by decide +kernel
theorem dX8_in_11 : decode cX8_in 11 = .ok (.goto 4, 3) := by decide +kernel
theorem dX8_in_14 : decode cX8_in 14 = .ok (.iconst 0, 1) := by decide +kernel
theorem dX8_in_15 : decode cX8_in 15 = .ok (.ireturn, 1) := by decide +kernel
theorem dX8_isPlace_0 : decode cX8_isPlace 0 = .ok (.iload_n 1, 1) := by decide +kernel
theorem dX8_isPlace_1 : decode cX8_isPlace 1 = .ok (.iconst 0, 1) := by decide +kernel
theorem dX8_isPlace_2 : decode cX8_isPlace 2 = .ok (.aload_n 0, 1) := by decide +kernel
theorem dX8_isPlace_3 : decode cX8_isPlace 3 = .ok (.getfield 19, 3) := by decide +kernel
theorem dX8_isPlace_6 : decode cX8_isPlace 6 = .ok (.iconst 1, 1) := by decide +kernel
theorem dX8_isPlace_7 : decode cX8_isPlace 7 = .ok (.isub, 1) := by decide +kernel
theorem dX8_isPlace_8 : decode cX8_isPlace 8 = .ok (.invokestatic 61, 3) := by decide +kernel
theorem dX8_isPlace_11 : decode cX8_isPlace 11 = .ok (.ireturn, 1) := by decide +kernel
theorem dX8_isPerson_0 : decode cX8_isPerson 0 = .ok (.iload_n 1, 1) := by decide +kernel
theorem dX8_isPerson_1 : decode cX8_isPerson 1 = .ok (.iconst 0, 1) := by decide +kernel
theorem dX8_isPerson_2 : decode cX8_isPerson 2 = .ok (.aload_n 0, 1) := by decide +kernel
theorem dX8_isPerson_3 : decode cX8_isPerson 3 = .ok (.getfield 65, 3) := by decide +kernel
theorem dX8_isPerson_6 : decode cX8_isPerson 6 = .ok (.iconst 1, 1) := by decide +kernel
theorem dX8_isPerson_7 : decode cX8_isPerson 7 = .ok (.isub, 1) := by decide +kernel
theorem dX8_isPerson_8 : decode cX8_isPerson 8 = .ok (.invokestatic 61, 3) := by decide +kernel
theorem dX8_isPerson_11 : decode cX8_isPerson 11 = .ok (.ireturn, 1) := by decide +kernel
theorem dX8_isThing_0 : decode cX8_isThing 0 = .ok (.iload_n 1, 1) := by decide +kernel
theorem dX8_isThing_1 : decode cX8_isThing 1 = .ok (.iconst 0, 1) := by decide +kernel
theorem dX8_isThing_2 : decode cX8_isThing 2 = .ok (.aload_n 0, 1) := by decide +kernel
theorem dX8_isThing_3 : decode cX8_isThing 3 = .ok (.getfield 68, 3) := by decide +kernel
theorem dX8_isThing_6 : decode cX8_isThing 6 = .ok (.iconst 1, 1) := by decide +kernel
theorem dX8_isThing_7 : decode cX8_isThing 7 = .ok (.isub, 1) := by decide +kernel
theorem dX8_isThing_8 : decode cX8_isThing 8 = .ok (.invokestatic 61, 3) := by decide +kernel
theorem dX8_isThing_11 : decode cX8_isThing 11 = .ok (.ireturn, 1) := by decide +kernel
theorem dX8_letter_0 : decode cX8_letter 0 = .ok (.iload_n 1, 1) := by decide +kernel
theorem dX8_letter_1 : decode cX8_letter 1 = .ok (.ifCond .ge 10, 3) := by decide +kernel
theorem dX8_letter_4 : decode cX8_letter 4 = .ok (.aload_n 0, 1) := by decide +kernel
theorem dX8_letter_5 : decode cX8_letter 5 = .ok (.bipush (-4), 2) := by decide +kernel
theorem dX8_letter_7 : decode cX8_letter 7 = .ok (.invokevirtual 71, 3) := by decide +kernel
theorem dX8_letter_10 : decode cX8_letter 10 = .ok (.ireturn, 1) := by decide +kernel
theorem dX8_letter_11 : decode cX8_letter 11 = .ok (.iload_n 1, 1) := by decide +kernel
theorem dX8_letter_12 : decode cX8_letter 12 = .ok (.sipush 255, 3) := by decide +kernel
theorem dX8_letter_15 : decode cX8_letter 15 = .ok (.if_icmp .gt 12, 3) := by decide +kernel
theorem dX8_letter_18 : decode cX8_letter 18 = .ok (.aload_n 0, 1) := by decide +kernel
theorem dX8_letter_19 : decode cX8_letter 19 = .ok (.getfield 75, 3) := by decide +kernel
theorem dX8_letter_22 : decode cX8_letter 22 = .ok (.bipush 64, 2) := by decide +kernel
theorem dX8_letter_24 : decode cX8_letter 24 = .ok (.if_icmp .ne 10, 3) := by decide +kernel
theorem dX8_letter_27 : decode cX8_letter 27 = .ok (.aload_n 0, 1) := by decide +kernel
theorem dX8_letter_28 : decode cX8_letter 28 = .ok (.bipush (-6), 2) := by decide +kernel
theorem dX8_letter_30 : decode cX8_letter 30 = .ok (.invokevirtual 71, 3) := by decide +kernel
theorem dX8_letter_33 : decode cX8_letter 33 = .ok (.ireturn, 1) := by decide +kernel
theorem dX8_letter_34 : decode cX8_letter 34 = .ok (.aload_n 0, 1) := by decide +kernel
theorem dX8_letter_35 : decode cX8_letter 35 = .ok (.getfield 9, 3) := by decide +kernel
theorem dX8_letter_38 : decode cX8_letter 38 = .ok (.aload_n 0, 1) := by decide +kernel
theorem dX8_letter_39 : decode cX8_letter 39 = .ok (.dup, 1) := by decide +kernel
theorem dX8_letter_40 : decode cX8_letter 40 = .ok (.getfield 75, 3) := by decide +kernel
theorem dX8_letter_43 : decode cX8_letter 43 = .ok (.dup_x1, 1) := by decide +kernel
theorem dX8_letter_44 : decode cX8_letter 44 = .ok (.iconst 1, 1) := by decide +kernel
theorem dX8_letter_45 : decode cX8_letter 45 = .ok (.iadd, 1) := by decide +kernel
theorem dX8_letter_46 : decode cX8_letter 46 = .ok (.putfield 75, 3) := by decide +kernel
theorem dX8_letter_49 : decode cX8_letter 49 = .ok (.iload_n 1, 1) := by decide +kernel
theorem dX8_letter_50 : decode cX8_letter 50 = .ok (.iastore, 1) := by decide +kernel
theorem dX8_letter_51 : decode cX8_letter 51 = .ok (.aload_n 0, 1) := by decide +kernel
theorem dX8_letter_52 : decode cX8_letter 52 = .ok (.getfield 75, 3) := by decide +kernel
theorem dX8_letter_55 : decode cX8_letter 55 = .ok (.ireturn, 1) := by decide +kernel
theorem dX8_must_0 : decode cX8_must 0 = .ok (.aload_n 0, 1) := by decide +kernel
theorem dX8_must_1 : decode cX8_must 1 = .ok (.getfield 78, 3) := by decide +kernel
theorem dX8_must_4 : decode cX8_must 4 = .ok (.aload_n 0, 1) := by decide +kernel
theorem dX8_must_5 : decode cX8_must 5 = .ok (.getfield 75, 3) := by decide +kernel
theorem dX8_must_8 : decode cX8_must 8 = .ok (.if_icmp .ge 20, 3) := by decide +kernel
theorem dX8_must_11 : decode cX8_must 11 = .ok (.aload_n 0, 1) := by decide +kernel
theorem dX8_must_12 : decode cX8_must 12 = .ok (.getfield 9, 3) := by decide +kernel
theorem dX8_must_15 : decode cX8_must 15 = .ok (.aload_n 0, 1) := by decide +kernel
theorem dX8_must_16 : decode cX8_must 16 = .ok (.getfield 78, 3) := by decide +kernel
theorem dX8_must_19 : decode cX8_must 19 = .ok (.iaload, 1) := by decide +kernel
theorem dX8_must_20 : decode cX8_must 20 = .ok (.iload_n 1, 1) := by decide +kernel
theorem dX8_must_21 : decode cX8_must 21 = .ok (.if_icmp .ne 7, 3) := by decide +kernel
theorem dX8_must_24 : decode cX8_must 24 = .ok (.iconst 1, 1) := by decide +kernel
theorem dX8_must_25 : decode cX8_must 25 = .ok (.goto 4, 3) := by decide +kernel
theorem dX8_must_28 : decode cX8_must 28 = .ok (.iconst 0, 1) := by decide +kernel
theorem dX8_must_29 : decode cX8_must 29 = .ok (.istore_n 2, 1) := by decide +kernel
theorem dX8_must_30 : decode cX8_must 30 = .ok (.aload_n 0, 1) := by decide +kernel
theorem dX8_must_31 : decode cX8_must 31 = .ok (.dup, 1) := by decide +kernel
theorem dX8_must_32 : decode cX8_must 32 = .ok (.getfield 78, 3) := by decide +kernel
theorem dX8_must_35 : decode cX8_must 35 = .ok (.iload_n 2, 1) := by decide +kernel
theorem dX8_must_36 : decode cX8_must 36 = .ok (.ifCond .eq 7, 3) := by decide +kernel
theorem dX8_must_39 : decode cX8_must 39 = .ok (.iconst 1, 1) := by decide +kernel
theorem dX8_must_40 : decode cX8_must 40 = .ok (.goto 4, 3) := by decide +kernel
theorem dX8_must_43 : decode cX8_must 43 = .ok (.iconst 0, 1) := by decide +kernel
theorem dX8_must_44 : decode cX8_must 44 = .ok (.iadd, 1) := by decide +kernel
theorem dX8_must_45 : decode cX8_must 45 = .ok (.putfield 78, 3) := by decide +kernel
theorem dX8_must_48 : decode cX8_must 48 = .ok (.iload_n 2, 1) := by decide +kernel
theorem dX8_must_49 : decode cX8_must 49 = .ok (.ireturn, 1) := by decide +kernel
theorem dX8_isDigit_0 : decode cX8_isDigit 0 = .ok (.aload_n 0, 1) := by decide +kernel
theorem dX8_isDigit_1 : decode cX8_isDigit 1 = .ok (.getfield 78, 3) := by decide +kernel
theorem dX8_isDigit_4 : decode cX8_isDigit 4 = .ok (.aload_n 0, 1) := by decide +kernel
theorem dX8_isDigit_5 : decode cX8_isDigit 5 = .ok (.getfield 75, 3) := by decide +kernel
theorem dX8_isDigit_8 : decode cX8_isDigit 8 = .ok (.if_icmp .ge 35, 3) := by decide +kernel
theorem dX8_isDigit_11 : decode cX8_isDigit 11 = .ok (.aload_n 0, 1) := by decide +kernel
theorem dX8_isDigit_12 : decode cX8_isDigit 12 = .ok (.getfield 9, 3) := by decide +kernel
theorem dX8_isDigit_15 : decode cX8_isDigit 15 = .ok (.aload_n 0, 1) := by decide +kernel
theorem dX8_isDigit_16 : decode cX8_isDigit 16 = .ok (.getfield 78, 3) := by decide +kernel
theorem dX8_isDigit_19 : decode cX8_isDigit 19 = .ok (.iaload, 1) := by decide +kernel
theorem dX8_isDigit_20 : decode cX8_isDigit 20 = .ok (.bipush 48, 2) := by decide +kernel
theorem dX8_isDigit_22 : decode cX8_isDigit 22 = .ok (.if_icmp .lt 21, 3) := by decide +kernel
theorem dX8_isDigit_25 : decode cX8_isDigit 25 = .ok (.aload_n 0, 1) := by decide +kernel
theorem dX8_isDigit_26 : decode cX8_isDigit 26 = .ok (.getfield 9, 3) := by decide +kernel
theorem dX8_isDigit_29 : decode cX8_isDigit 29 = .ok (.aload_n 0, 1) := by decide +kernel
theorem dX8_isDigit_30 : decode cX8_isDigit 30 = .ok (.getfield 78, 3) := by decide +kernel
theorem dX8_isDigit_33 : decode cX8_isDigit 33 = .ok (.iaload, 1) := by decide +kernel
theorem dX8_isDigit_34 : decode cX8_isDigit 34 = .ok (.bipush 57, 2) := by decide +kernel
theorem dX8_isDigit_36 : decode cX8_isDigit 36 = .ok (.if_icmp .gt 7, 3) := by decide +kernel
theorem dX8_isDigit_39 : decode cX8_isDigit 39 = .ok (.iconst 1, 1) := by decide +kernel
theorem dX8_isDigit_40 : decode cX8_isDigit 40 = .ok (.goto 4, 3) := by decide +kernel
theorem dX8_isDigit_43 : decode cX8_isDigit 43 = .ok (.iconst 0, 1) := by decide +kernel
theorem dX8_isDigit_44 : decode cX8_isDigit 44 = .ok (.ireturn, 1) := by decide +kernel
theorem dX8_number_0 : decode cX8_number 0 = .ok (.iconst 0, 1) := by decide +kernel
theorem dX8_number_1 : decode cX8_number 1 = .ok (.istore_n 2, 1) := by decide +kernel
theorem dX8_number_2 : decode cX8_number 2 = .ok (.iconst 0, 1) := by decide +kernel
theorem dX8_number_3 : decode cX8_number 3 = .ok (.istore_n 3, 1) := by decide +kernel
theorem dX8_number_4 : decode cX8_number 4 = .ok (.iload_n 3, 1) := by decide +kernel
theorem dX8_number_5 : decode cX8_number 5 = .ok (.iload_n 1, 1) := by decide +kernel
theorem dX8_number_6 : decode cX8_number 6 = .ok (.if_icmp .ge 44, 3) := by decide +kernel
theorem dX8_number_9 : decode cX8_number 9 = .ok (.aload_n 0, 1) := by decide +kernel
theorem dX8_number_10 : decode cX8_number 10 = .ok (.invokevirtual 81, 3) := by decide +kernel
theorem dX8_number_13 : decode cX8_number 13 = .ok (.ifCond .eq 37, 3) := by decide +kernel
theorem dX8_number_16 : decode cX8_number 16 = .ok (.bipush 10, 2) := by decide +kernel
theorem dX8_number_18 : decode cX8_number 18 = .ok (.iload_n 2, 1) := by decide +kernel
theorem dX8_number_19 : decode cX8_number 19 = .ok (.imul, 1) := by decide +kernel
theorem dX8_number_20 : decode cX8_number 20 = .ok (.aload_n 0, 1) := by decide +kernel
theorem dX8_number_21 : decode cX8_number 21 = .ok (.getfield 9, 3) := by decide +kernel
theorem dX8_number_24 : decode cX8_number 24 = .ok (.aload_n 0, 1) := by decide +kernel
theorem dX8_number_25 : decode cX8_number 25 = .ok (.getfield 78, 3) := by decide +kernel
theorem dX8_number_28 : decode cX8_number 28 = .ok (.iaload, 1) := by decide +kernel
theorem dX8_number_29 : decode cX8_number 29 = .ok (.iadd, 1) := by decide +kernel
theorem dX8_number_30 : decode cX8_number 30 = .ok (.bipush 48, 2) := by decide +kernel
theorem dX8_number_32 : decode cX8_number 32 = .ok (.isub, 1) := by decide +kernel
theorem dX8_number_33 : decode cX8_number 33 = .ok (.istore_n 2, 1) := by decide +kernel
theorem dX8_number_34 : decode cX8_number 34 = .ok (.aload_n 0, 1) := by decide +kernel
theorem dX8_number_35 : decode cX8_number 35 = .ok (.dup, 1) := by decide +kernel
theorem dX8_number_36 : decode cX8_number 36 = .ok (.getfield 78, 3) := by decide +kernel
theorem dX8_number_39 : decode cX8_number 39 = .ok (.iconst 1, 1) := by decide +kernel
theorem dX8_number_40 : decode cX8_number 40 = .ok (.iadd, 1) := by decide +kernel
theorem dX8_number_41 : decode cX8_number 41 = .ok (.putfield 78, 3) := by decide +kernel
theorem dX8_number_44 : decode cX8_number 44 = .ok (.iinc 3 1, 3) := by decide +kernel
theorem dX8_number_47 : decode cX8_number 47 = .ok (.goto (-43), 3) := by decide +kernel
theorem dX8_number_50 : decode cX8_number 50 = .ok (.iload_n 3, 1) := by decide +kernel
theorem dX8_number_51 : decode cX8_number 51 = .ok (.ifCond .le 20, 3) := by decide +kernel
theorem dX8_number_54 : decode cX8_number 54 = .ok (.aload_n 0, 1) := by decide +kernel
theorem dX8_number_55 : decode cX8_number 55 = .ok (.getfield 34, 3) := by decide +kernel
theorem dX8_number_58 : decode cX8_number 58 = .ok (.aload_n 0, 1) := by decide +kernel
theorem dX8_number_59 : decode cX8_number 59 = .ok (.dup, 1) := by decide +kernel
theorem dX8_number_60 : decode cX8_number 60 = .ok (.getfield 85, 3) := by decide +kernel
theorem dX8_number_63 : decode cX8_number 63 = .ok (.dup_x1, 1) := by decide +kernel
theorem dX8_number_64 : decode cX8_number 64 = .ok (.iconst 1, 1) := by decide +kernel
theorem dX8_number_65 : decode cX8_number 65 = .ok (.iadd, 1) := by decide +kernel
theorem dX8_number_66 : decode cX8_number 66 = .ok (.putfield 85, 3) := by decide +kernel
theorem dX8_number_69 : decode cX8_number 69 = .ok (.iload_n 2, 1) := by decide +kernel
theorem dX8_number_70 : decode cX8_number 70 = .ok (.iastore, 1) := by decide +kernel
theorem dX8_number_71 : decode cX8_number 71 = .ok (.iload_n 3, 1) := by decide +kernel
theorem dX8_number_72 : decode cX8_number 72 = .ok (.ifCond .le 7, 3) := by decide +kernel
theorem dX8_number_75 : decode cX8_number 75 = .ok (.iconst 1, 1) := by decide +kernel
theorem dX8_number_76 : decode cX8_number 76 = .ok (.goto 4, 3) := by decide +kernel
theorem dX8_number_79 : decode cX8_number 79 = .ok (.iconst 0, 1) := by decide +kernel
theorem dX8_number_80 : decode cX8_number 80 = .ok (.ireturn, 1) := by decide +kernel
theorem dX8_comma_0 : decode cX8_comma 0 = .ok (.aload_n 0, 1) := by decide +kernel
theorem dX8_comma_1 : decode cX8_comma 1 = .ok (.bipush 44, 2) := by decide +kernel
theorem dX8_comma_3 : decode cX8_comma 3 = .ok (.invokevirtual 88, 3) := by decide +kernel
theorem dX8_comma_6 : decode cX8_comma 6 = .ok (.ifCond .eq 15, 3) := by decide +kernel
theorem dX8_comma_9 : decode cX8_comma 9 = .ok (.aload_n 0, 1) := by decide +kernel
theorem dX8_comma_10 : decode cX8_comma 10 = .ok (.iload_n 1, 1) := by decide +kernel
theorem dX8_comma_11 : decode cX8_comma 11 = .ok (.invokevirtual 92, 3) := by decide +kernel
theorem dX8_comma_14 : decode cX8_comma 14 = .ok (.ifCond .eq 7, 3) := by decide +kernel
theorem dX8_comma_17 : decode cX8_comma 17 = .ok (.iconst 1, 1) := by decide +kernel
theorem dX8_comma_18 : decode cX8_comma 18 = .ok (.goto 4, 3) := by decide +kernel
theorem dX8_comma_21 : decode cX8_comma 21 = .ok (.iconst 0, 1) := by decide +kernel
theorem dX8_comma_22 : decode cX8_comma 22 = .ok (.ireturn, 1) := by decide +kernel
theorem dX8_goesBy_0 : decode cX8_goesBy 0 = .ok (.aload_n 0, 1) := by decide +kernel
theorem dX8_goesBy_1 : decode cX8_goesBy 1 = .ok (.iconst 0, 1) := by decide +kernel
theorem dX8_goesBy_2 : decode cX8_goesBy 2 = .ok (.putfield 85, 3) := by decide +kernel
theorem dX8_goesBy_5 : decode cX8_goesBy 5 = .ok (.aload_n 0, 1) := by decide +kernel
theorem dX8_goesBy_6 : decode cX8_goesBy 6 = .ok (.bipush 110, 2) := by decide +kernel
theorem dX8_goesBy_8 : decode cX8_goesBy 8 = .ok (.invokevirtual 88, 3) := by decide +kernel
theorem dX8_goesBy_11 : decode cX8_goesBy 11 = .ok (.ifCond .eq 12, 3) := by decide +kernel
theorem dX8_goesBy_14 : decode cX8_goesBy 14 = .ok (.aload_n 0, 1) := by decide +kernel
theorem dX8_goesBy_15 : decode cX8_goesBy 15 = .ok (.iconst 1, 1) := by decide +kernel
theorem dX8_goesBy_16 : decode cX8_goesBy 16 = .ok (.invokevirtual 92, 3) := by decide +kernel
theorem dX8_goesBy_19 : decode cX8_goesBy 19 = .ok (.istore_n 1, 1) := by decide +kernel
theorem dX8_goesBy_20 : decode cX8_goesBy 20 = .ok (.goto 174, 3) := by decide +kernel
theorem dX8_goesBy_23 : decode cX8_goesBy 23 = .ok (.aload_n 0, 1) := by decide +kernel
theorem dX8_goesBy_24 : decode cX8_goesBy 24 = .ok (.bipush 119, 2) := by decide +kernel
theorem dX8_goesBy_26 : decode cX8_goesBy 26 = .ok (.invokevirtual 88, 3) := by decide +kernel
theorem dX8_goesBy_29 : decode cX8_goesBy 29 = .ok (.ifCond .eq 36, 3) := by decide +kernel
theorem dX8_goesBy_32 : decode cX8_goesBy 32 = .ok (.aload_n 0, 1) := by decide +kernel
theorem dX8_goesBy_33 : decode cX8_goesBy 33 = .ok (.iconst 1, 1) := by decide +kernel
theorem dX8_goesBy_34 : decode cX8_goesBy 34 = .ok (.invokevirtual 92, 3) := by decide +kernel
theorem dX8_goesBy_37 : decode cX8_goesBy 37 = .ok (.ifCond .eq 23, 3) := by decide +kernel
theorem dX8_goesBy_40 : decode cX8_goesBy 40 = .ok (.aload_n 0, 1) := by decide +kernel
theorem dX8_goesBy_41 : decode cX8_goesBy 41 = .ok (.iconst 1, 1) := by decide +kernel
theorem dX8_goesBy_42 : decode cX8_goesBy 42 = .ok (.invokevirtual 92, 3) := by decide +kernel
theorem dX8_goesBy_45 : decode cX8_goesBy 45 = .ok (.ifCond .eq 15, 3) := by decide +kernel
theorem dX8_goesBy_48 : decode cX8_goesBy 48 = .ok (.aload_n 0, 1) := by decide +kernel
theorem dX8_goesBy_49 : decode cX8_goesBy 49 = .ok (.iconst 2, 1) := by decide +kernel
theorem dX8_goesBy_50 : decode cX8_goesBy 50 = .ok (.invokevirtual 95, 3) := by decide +kernel
theorem dX8_goesBy_53 : decode cX8_goesBy 53 = .ok (.ifCond .eq 7, 3) := by decide +kernel
theorem dX8_goesBy_56 : decode cX8_goesBy 56 = .ok (.iconst 1, 1) := by decide +kernel
theorem dX8_goesBy_57 : decode cX8_goesBy 57 = .ok (.goto 4, 3) := by decide +kernel
theorem dX8_goesBy_60 : decode cX8_goesBy 60 = .ok (.iconst 0, 1) := by decide +kernel
theorem dX8_goesBy_61 : decode cX8_goesBy 61 = .ok (.istore_n 1, 1) := by decide +kernel
theorem dX8_goesBy_62 : decode cX8_goesBy 62 = .ok (.goto 132, 3) := by decide +kernel
theorem dX8_goesBy_65 : decode cX8_goesBy 65 = .ok (.aload_n 0, 1) := by decide +kernel
theorem dX8_goesBy_66 : decode cX8_goesBy 66 = .ok (.bipush 112, 2) := by decide +kernel
theorem dX8_goesBy_68 : decode cX8_goesBy 68 = .ok (.invokevirtual 88, 3) := by decide +kernel
theorem dX8_goesBy_71 : decode cX8_goesBy 71 = .ok (.ifCond .eq 52, 3) := by decide +kernel
theorem dX8_goesBy_74 : decode cX8_goesBy 74 = .ok (.aload_n 0, 1) := by decide +kernel
theorem dX8_goesBy_75 : decode cX8_goesBy 75 = .ok (.iconst 1, 1) := by decide +kernel
theorem dX8_goesBy_76 : decode cX8_goesBy 76 = .ok (.invokevirtual 92, 3) := by decide +kernel
theorem dX8_goesBy_79 : decode cX8_goesBy 79 = .ok (.ifCond .eq 39, 3) := by decide +kernel
theorem dX8_goesBy_82 : decode cX8_goesBy 82 = .ok (.aload_n 0, 1) := by decide +kernel
theorem dX8_goesBy_83 : decode cX8_goesBy 83 = .ok (.iconst 1, 1) := by decide +kernel
theorem dX8_goesBy_84 : decode cX8_goesBy 84 = .ok (.invokevirtual 92, 3) := by decide +kernel
theorem dX8_goesBy_87 : decode cX8_goesBy 87 = .ok (.ifCond .eq 31, 3) := by decide +kernel
theorem dX8_goesBy_90 : decode cX8_goesBy 90 = .ok (.aload_n 0, 1) := by decide +kernel
theorem dX8_goesBy_91 : decode cX8_goesBy 91 = .ok (.iconst 3, 1) := by decide +kernel
theorem dX8_goesBy_92 : decode cX8_goesBy 92 = .ok (.invokevirtual 95, 3) := by decide +kernel
theorem dX8_goesBy_95 : decode cX8_goesBy 95 = .ok (.ifCond .eq 23, 3) := by decide +kernel
theorem dX8_goesBy_98 : decode cX8_goesBy 98 = .ok (.aload_n 0, 1) := by decide +kernel
theorem dX8_goesBy_99 : decode cX8_goesBy 99 = .ok (.iconst 1, 1) := by decide +kernel
theorem dX8_goesBy_100 : decode cX8_goesBy 100 = .ok (.invokevirtual 95, 3) := by decide +kernel
theorem dX8_goesBy_103 : decode cX8_goesBy 103 = .ok (.ifCond .eq 15, 3) := by decide +kernel
theorem dX8_goesBy_106 : decode cX8_goesBy 106 = .ok (.aload_n 0, 1) := by decide +kernel
theorem dX8_goesBy_107 : decode cX8_goesBy 107 = .ok (.iconst 1, 1) := by decide +kernel
theorem dX8_goesBy_108 : decode cX8_goesBy 108 = .ok (.invokevirtual 95, 3) := by decide +kernel
theorem dX8_goesBy_111 : decode cX8_goesBy 111 = .ok (.ifCond .eq 7, 3) := by decide +kernel
theorem dX8_goesBy_114 : decode cX8_goesBy 114 = .ok (.iconst 1, 1) := by decide +kernel
theorem dX8_goesBy_115 : decode cX8_goesBy 115 = .ok (.goto 4, 3) := by decide +kernel
theorem dX8_goesBy_118 : decode cX8_goesBy 118 = .ok (.iconst 0, 1) := by decide +kernel
theorem dX8_goesBy_119 : decode cX8_goesBy 119 = .ok (.istore_n 1, 1) := by decide +kernel
theorem dX8_goesBy_120 : decode cX8_goesBy 120 = .ok (.goto 74, 3) := by decide +kernel
theorem dX8_goesBy_123 : decode cX8_goesBy 123 = .ok (.aload_n 0, 1) := by decide +kernel
theorem dX8_goesBy_124 : decode cX8_goesBy 124 = .ok (.bipush 116, 2) := by decide +kernel
theorem dX8_goesBy_126 : decode cX8_goesBy 126 = .ok (.invokevirtual 88, 3) := by decide +kernel
theorem dX8_goesBy_129 : decode cX8_goesBy 129 = .ok (.ifCond .eq 63, 3) := by decide +kernel
theorem dX8_goesBy_132 : decode cX8_goesBy 132 = .ok (.aload_n 0, 1) := by decide +kernel
theorem dX8_goesBy_133 : decode cX8_goesBy 133 = .ok (.iconst 1, 1) := by decide +kernel
theorem dX8_goesBy_134 : decode cX8_goesBy 134 = .ok (.invokevirtual 92, 3) := by decide +kernel
theorem dX8_goesBy_137 : decode cX8_goesBy 137 = .ok (.ifCond .eq 55, 3) := by decide +kernel
theorem dX8_goesBy_140 : decode cX8_goesBy 140 = .ok (.aload_n 0, 1) := by decide +kernel
theorem dX8_goesBy_141 : decode cX8_goesBy 141 = .ok (.iconst 1, 1) := by decide +kernel
theorem dX8_goesBy_142 : decode cX8_goesBy 142 = .ok (.invokevirtual 92, 3) := by decide +kernel
theorem dX8_goesBy_145 : decode cX8_goesBy 145 = .ok (.ifCond .eq 47, 3) := by decide +kernel
theorem dX8_goesBy_148 : decode cX8_goesBy 148 = .ok (.aload_n 0, 1) := by decide +kernel
theorem dX8_goesBy_149 : decode cX8_goesBy 149 = .ok (.iconst 1, 1) := by decide +kernel
theorem dX8_goesBy_150 : decode cX8_goesBy 150 = .ok (.invokevirtual 92, 3) := by decide +kernel
theorem dX8_goesBy_153 : decode cX8_goesBy 153 = .ok (.ifCond .eq 39, 3) := by decide +kernel
theorem dX8_goesBy_156 : decode cX8_goesBy 156 = .ok (.aload_n 0, 1) := by decide +kernel
theorem dX8_goesBy_157 : decode cX8_goesBy 157 = .ok (.iconst 1, 1) := by decide +kernel
theorem dX8_goesBy_158 : decode cX8_goesBy 158 = .ok (.invokevirtual 92, 3) := by decide +kernel
theorem dX8_goesBy_161 : decode cX8_goesBy 161 = .ok (.ifCond .eq 31, 3) := by decide +kernel
theorem dX8_goesBy_164 : decode cX8_goesBy 164 = .ok (.aload_n 0, 1) := by decide +kernel
theorem dX8_goesBy_165 : decode cX8_goesBy 165 = .ok (.iconst 1, 1) := by decide +kernel
theorem dX8_goesBy_166 : decode cX8_goesBy 166 = .ok (.invokevirtual 95, 3) := by decide +kernel
theorem dX8_goesBy_169 : decode cX8_goesBy 169 = .ok (.ifCond .eq 23, 3) := by decide +kernel
theorem dX8_goesBy_172 : decode cX8_goesBy 172 = .ok (.aload_n 0, 1) := by decide +kernel
theorem dX8_goesBy_173 : decode cX8_goesBy 173 = .ok (.iconst 3, 1) := by decide +kernel
theorem dX8_goesBy_174 : decode cX8_goesBy 174 = .ok (.invokevirtual 95, 3) := by decide +kernel
theorem dX8_goesBy_177 : decode cX8_goesBy 177 = .ok (.ifCond .eq 15, 3) := by decide +kernel
theorem dX8_goesBy_180 : decode cX8_goesBy 180 = .ok (.aload_n 0, 1) := by decide +kernel
theorem dX8_goesBy_181 : decode cX8_goesBy 181 = .ok (.iconst 2, 1) := by decide +kernel
theorem dX8_goesBy_182 : decode cX8_goesBy 182 = .ok (.invokevirtual 95, 3) := by decide +kernel
theorem dX8_goesBy_185 : decode cX8_goesBy 185 = .ok (.ifCond .eq 7, 3) := by decide +kernel
theorem dX8_goesBy_188 : decode cX8_goesBy 188 = .ok (.iconst 1, 1) := by decide +kernel
theorem dX8_goesBy_189 : decode cX8_goesBy 189 = .ok (.goto 4, 3) := by decide +kernel
theorem dX8_goesBy_192 : decode cX8_goesBy 192 = .ok (.iconst 0, 1) := by decide +kernel
theorem dX8_goesBy_193 : decode cX8_goesBy 193 = .ok (.istore_n 1, 1) := by decide +kernel
theorem dX8_goesBy_194 : decode cX8_goesBy 194 = .ok (.iload_n 1, 1) := by decide +kernel
theorem dX8_goesBy_195 : decode cX8_goesBy 195 = .ok (.ifCond .eq 16, 3) := by decide +kernel
theorem dX8_goesBy_198 : decode cX8_goesBy 198 = .ok (.aload_n 0, 1) := by decide +kernel
theorem dX8_goesBy_199 : decode cX8_goesBy 199 = .ok (.bipush 59, 2) := by decide +kernel
theorem dX8_goesBy_201 : decode cX8_goesBy 201 = .ok (.invokevirtual 88, 3) := by decide +kernel
theorem dX8_goesBy_204 : decode cX8_goesBy 204 = .ok (.ifCond .eq 7, 3) := by decide +kernel
theorem dX8_goesBy_207 : decode cX8_goesBy 207 = .ok (.iconst 1, 1) := by decide +kernel
theorem dX8_goesBy_208 : decode cX8_goesBy 208 = .ok (.goto 4, 3) := by decide +kernel
theorem dX8_goesBy_211 : decode cX8_goesBy 211 = .ok (.iconst 0, 1) := by decide +kernel
theorem dX8_goesBy_212 : decode cX8_goesBy 212 = .ok (.ireturn, 1) := by decide +kernel
theorem dX8_faultOfForm_0 : decode cX8_faultOfForm 0 = .ok (.aload_n 0, 1) := by decide +kernel
theorem dX8_faultOfForm_1 : decode cX8_faultOfForm 1 = .ok (.iconst 0, 1) := by decide +kernel
theorem dX8_faultOfForm_2 : decode cX8_faultOfForm 2 = .ok (.putfield 78, 3) := by decide +kernel
theorem dX8_faultOfForm_5 : decode cX8_faultOfForm 5 = .ok (.aload_n 0, 1) := by decide +kernel
theorem dX8_faultOfForm_6 : decode cX8_faultOfForm 6 = .ok (.invokevirtual 98, 3) := by decide +kernel
theorem dX8_faultOfForm_9 : decode cX8_faultOfForm 9 = .ok (.ifCond .ne 8, 3) := by decide +kernel
theorem dX8_faultOfForm_12 : decode cX8_faultOfForm 12 = .ok (.aload_n 0, 1) := by decide +kernel
theorem dX8_faultOfForm_13 : decode cX8_faultOfForm 13 = .ok (.getfield 78, 3) := by decide +kernel
theorem dX8_faultOfForm_16 : decode cX8_faultOfForm 16 = .ok (.ireturn, 1) := by decide +kernel
theorem dX8_faultOfForm_17 : decode cX8_faultOfForm 17 = .ok (.aload_n 0, 1) := by decide +kernel
theorem dX8_faultOfForm_18 : decode cX8_faultOfForm 18 = .ok (.getfield 78, 3) := by decide +kernel
theorem dX8_faultOfForm_21 : decode cX8_faultOfForm 21 = .ok (.aload_n 0, 1) := by decide +kernel
theorem dX8_faultOfForm_22 : decode cX8_faultOfForm 22 = .ok (.getfield 75, 3) := by decide +kernel
theorem dX8_faultOfForm_25 : decode cX8_faultOfForm 25 = .ok (.if_icmp .ge 15, 3) := by decide +kernel
theorem dX8_faultOfForm_28 : decode cX8_faultOfForm 28 = .ok (.aload_n 0, 1) := by decide +kernel
theorem dX8_faultOfForm_29 : decode cX8_faultOfForm 29 = .ok (.invokevirtual 98, 3) := by decide +kernel
theorem dX8_faultOfForm_32 : decode cX8_faultOfForm 32 = .ok (.ifCond .ne (-15), 3) := by decide +kernel
theorem dX8_faultOfForm_35 : decode cX8_faultOfForm 35 = .ok (.aload_n 0, 1) := by decide +kernel
theorem dX8_faultOfForm_36 : decode cX8_faultOfForm 36 = .ok (.getfield 78, 3) := by decide +kernel
theorem dX8_faultOfForm_39 : decode cX8_faultOfForm 39 = .ok (.ireturn, 1) := by decide +kernel
theorem dX8_faultOfForm_40 : decode cX8_faultOfForm 40 = .ok (.bipush (-9), 2) := by decide +kernel
theorem dX8_faultOfForm_42 : decode cX8_faultOfForm 42 = .ok (.ireturn, 1) := by decide +kernel
theorem dX8_placesNeeded_0 : decode cX8_placesNeeded 0 = .ok (.iconst 1, 1) := by decide +kernel
theorem dX8_placesNeeded_1 : decode cX8_placesNeeded 1 = .ok (.istore_n 1, 1) := by decide +kernel
theorem dX8_placesNeeded_2 : decode cX8_placesNeeded 2 = .ok (.iconst 0, 1) := by decide +kernel
theorem dX8_placesNeeded_3 : decode cX8_placesNeeded 3 = .ok (.istore_n 2, 1) := by decide +kernel
theorem dX8_placesNeeded_4 : decode cX8_placesNeeded 4 = .ok (.iload_n 2, 1) := by decide +kernel
theorem dX8_placesNeeded_5 : decode cX8_placesNeeded 5 = .ok (.bipush 7, 2) := by decide +kernel
theorem dX8_placesNeeded_7 : decode cX8_placesNeeded 7 = .ok (.if_icmp .ge 45, 3) := by decide +kernel
theorem dX8_placesNeeded_10 : decode cX8_placesNeeded 10 = .ok (.iconst 0, 1) := by decide +kernel
theorem dX8_placesNeeded_11 : decode cX8_placesNeeded 11 = .ok (.istore_n 3, 1) := by decide +kernel
theorem dX8_placesNeeded_12 : decode cX8_placesNeeded 12 = .ok (.iload_n 3, 1) := by decide +kernel
theorem dX8_placesNeeded_13 : decode cX8_placesNeeded 13 = .ok (.bipush 7, 2) := by decide +kernel
theorem dX8_placesNeeded_15 : decode cX8_placesNeeded 15 = .ok (.if_icmp .ge 31, 3) := by decide +kernel
theorem dX8_placesNeeded_18 : decode cX8_placesNeeded 18 = .ok (.aload_n 0, 1) := by decide +kernel
theorem dX8_placesNeeded_19 : decode cX8_placesNeeded 19 = .ok (.getfield 25, 3) := by decide +kernel
theorem dX8_placesNeeded_22 : decode cX8_placesNeeded 22 = .ok (.iload_n 2, 1) := by decide +kernel
theorem dX8_placesNeeded_23 : decode cX8_placesNeeded 23 = .ok (.aaload, 1) := by decide +kernel
theorem dX8_placesNeeded_24 : decode cX8_placesNeeded 24 = .ok (.iload_n 3, 1) := by decide +kernel
theorem dX8_placesNeeded_25 : decode cX8_placesNeeded 25 = .ok (.iaload, 1) := by decide +kernel
theorem dX8_placesNeeded_26 : decode cX8_placesNeeded 26 = .ok (.ifCond .le 12, 3) := by decide +kernel
theorem dX8_placesNeeded_29 : decode cX8_placesNeeded 29 = .ok (.iload_n 2, 1) := by decide +kernel
theorem dX8_placesNeeded_30 : decode cX8_placesNeeded 30 = .ok (.iload_n 1, 1) := by decide +kernel
theorem dX8_placesNeeded_31 : decode cX8_placesNeeded 31 = .ok (.if_icmp .le 7, 3) := by decide +kernel
theorem dX8_placesNeeded_34 : decode cX8_placesNeeded 34 = .ok (.iload_n 2, 1) := by decide +kernel
theorem dX8_placesNeeded_35 : decode cX8_placesNeeded 35 = .ok (.goto 4, 3) := by decide +kernel
theorem dX8_placesNeeded_38 : decode cX8_placesNeeded 38 = .ok (.iload_n 1, 1) := by decide +kernel
theorem dX8_placesNeeded_39 : decode cX8_placesNeeded 39 = .ok (.istore_n 1, 1) := by decide +kernel
theorem dX8_placesNeeded_40 : decode cX8_placesNeeded 40 = .ok (.iinc 3 1, 3) := by decide +kernel
theorem dX8_placesNeeded_43 : decode cX8_placesNeeded 43 = .ok (.goto (-31), 3) := by decide +kernel
theorem dX8_placesNeeded_46 : decode cX8_placesNeeded 46 = .ok (.iinc 2 1, 3) := by decide +kernel
theorem dX8_placesNeeded_49 : decode cX8_placesNeeded 49 = .ok (.goto (-45), 3) := by decide +kernel
theorem dX8_placesNeeded_52 : decode cX8_placesNeeded 52 = .ok (.iconst 0, 1) := by decide +kernel
theorem dX8_placesNeeded_53 : decode cX8_placesNeeded 53 = .ok (.istore_n 2, 1) := by decide +kernel
theorem dX8_placesNeeded_54 : decode cX8_placesNeeded 54 = .ok (.iload_n 2, 1) := by decide +kernel
theorem dX8_placesNeeded_55 : decode cX8_placesNeeded 55 = .ok (.aload_n 0, 1) := by decide +kernel
theorem dX8_placesNeeded_56 : decode cX8_placesNeeded 56 = .ok (.getfield 65, 3) := by decide +kernel
theorem dX8_placesNeeded_59 : decode cX8_placesNeeded 59 = .ok (.if_icmp .ge 61, 3) := by decide +kernel
theorem dX8_placesNeeded_62 : decode cX8_placesNeeded 62 = .ok (.aload_n 0, 1) := by decide +kernel
theorem dX8_placesNeeded_63 : decode cX8_placesNeeded 63 = .ok (.getfield 28, 3) := by decide +kernel
theorem dX8_placesNeeded_66 : decode cX8_placesNeeded 66 = .ok (.iload_n 2, 1) := by decide +kernel
theorem dX8_placesNeeded_67 : decode cX8_placesNeeded 67 = .ok (.aaload, 1) := by decide +kernel
theorem dX8_placesNeeded_68 : decode cX8_placesNeeded 68 = .ok (.astore_n 3, 1) := by decide +kernel
theorem dX8_placesNeeded_69 : decode cX8_placesNeeded 69 = .ok (.aload_n 3, 1) := by decide +kernel
theorem dX8_placesNeeded_70 : decode cX8_placesNeeded 70 = .ok (.iconst 0, 1) := by decide +kernel
theorem dX8_placesNeeded_71 : decode cX8_placesNeeded 71 = .ok (.iaload, 1) := by decide +kernel
theorem dX8_placesNeeded_72 : decode cX8_placesNeeded 72 = .ok (.iload_n 1, 1) := by decide +kernel
theorem dX8_placesNeeded_73 : decode cX8_placesNeeded 73 = .ok (.if_icmp .le 9, 3) := by decide +kernel
theorem dX8_placesNeeded_76 : decode cX8_placesNeeded 76 = .ok (.aload_n 3, 1) := by decide +kernel
theorem dX8_placesNeeded_77 : decode cX8_placesNeeded 77 = .ok (.iconst 0, 1) := by decide +kernel
theorem dX8_placesNeeded_78 : decode cX8_placesNeeded 78 = .ok (.iaload, 1) := by decide +kernel
theorem dX8_placesNeeded_79 : decode cX8_placesNeeded 79 = .ok (.goto 4, 3) := by decide +kernel
theorem dX8_placesNeeded_82 : decode cX8_placesNeeded 82 = .ok (.iload_n 1, 1) := by decide +kernel
theorem dX8_placesNeeded_83 : decode cX8_placesNeeded 83 = .ok (.istore_n 1, 1) := by decide +kernel
theorem dX8_placesNeeded_84 : decode cX8_placesNeeded 84 = .ok (.aload_n 3, 1) := by decide +kernel
theorem dX8_placesNeeded_85 : decode cX8_placesNeeded 85 = .ok (.iconst 1, 1) := by decide +kernel
theorem dX8_placesNeeded_86 : decode cX8_placesNeeded 86 = .ok (.iaload, 1) := by decide +kernel
theorem dX8_placesNeeded_87 : decode cX8_placesNeeded 87 = .ok (.iload_n 1, 1) := by decide +kernel
theorem dX8_placesNeeded_88 : decode cX8_placesNeeded 88 = .ok (.if_icmp .le 9, 3) := by decide +kernel
theorem dX8_placesNeeded_91 : decode cX8_placesNeeded 91 = .ok (.aload_n 3, 1) := by decide +kernel
theorem dX8_placesNeeded_92 : decode cX8_placesNeeded 92 = .ok (.iconst 1, 1) := by decide +kernel
theorem dX8_placesNeeded_93 : decode cX8_placesNeeded 93 = .ok (.iaload, 1) := by decide +kernel
theorem dX8_placesNeeded_94 : decode cX8_placesNeeded 94 = .ok (.goto 4, 3) := by decide +kernel
theorem dX8_placesNeeded_97 : decode cX8_placesNeeded 97 = .ok (.iload_n 1, 1) := by decide +kernel
theorem dX8_placesNeeded_98 : decode cX8_placesNeeded 98 = .ok (.istore_n 1, 1) := by decide +kernel
theorem dX8_placesNeeded_99 : decode cX8_placesNeeded 99 = .ok (.aload_n 3, 1) := by decide +kernel
theorem dX8_placesNeeded_100 : decode cX8_placesNeeded 100 = .ok (.iconst 5, 1) := by decide +kernel
theorem dX8_placesNeeded_101 : decode cX8_placesNeeded 101 = .ok (.iaload, 1) := by decide +kernel
theorem dX8_placesNeeded_102 : decode cX8_placesNeeded 102 = .ok (.iload_n 1, 1) := by decide +kernel
theorem dX8_placesNeeded_103 : decode cX8_placesNeeded 103 = .ok (.if_icmp .le 9, 3) := by decide +kernel
theorem dX8_placesNeeded_106 : decode cX8_placesNeeded 106 = .ok (.aload_n 3, 1) := by decide +kernel
theorem dX8_placesNeeded_107 : decode cX8_placesNeeded 107 = .ok (.iconst 5, 1) := by decide +kernel
theorem dX8_placesNeeded_108 : decode cX8_placesNeeded 108 = .ok (.iaload, 1) := by decide +kernel
theorem dX8_placesNeeded_109 : decode cX8_placesNeeded 109 = .ok (.goto 4, 3) := by decide +kernel
theorem dX8_placesNeeded_112 : decode cX8_placesNeeded 112 = .ok (.iload_n 1, 1) := by decide +kernel
theorem dX8_placesNeeded_113 : decode cX8_placesNeeded 113 = .ok (.istore_n 1, 1) := by decide +kernel
theorem dX8_placesNeeded_114 : decode cX8_placesNeeded 114 = .ok (.iinc 2 1, 3) := by decide +kernel
theorem dX8_placesNeeded_117 : decode cX8_placesNeeded 117 = .ok (.goto (-63), 3) := by decide +kernel
theorem dX8_placesNeeded_120 : decode cX8_placesNeeded 120 = .ok (.iconst 0, 1) := by decide +kernel
theorem dX8_placesNeeded_121 : decode cX8_placesNeeded 121 = .ok (.istore_n 2, 1) := by decide +kernel
theorem dX8_placesNeeded_122 : decode cX8_placesNeeded 122 = .ok (.iload_n 2, 1) := by decide +kernel
theorem dX8_placesNeeded_123 : decode cX8_placesNeeded 123 = .ok (.aload_n 0, 1) := by decide +kernel
theorem dX8_placesNeeded_124 : decode cX8_placesNeeded 124 = .ok (.getfield 68, 3) := by decide +kernel
theorem dX8_placesNeeded_127 : decode cX8_placesNeeded 127 = .ok (.if_icmp .ge 72, 3) := by decide +kernel
theorem dX8_placesNeeded_130 : decode cX8_placesNeeded 130 = .ok (.aload_n 0, 1) := by decide +kernel
theorem dX8_placesNeeded_131 : decode cX8_placesNeeded 131 = .ok (.getfield 31, 3) := by decide +kernel
theorem dX8_placesNeeded_134 : decode cX8_placesNeeded 134 = .ok (.iload_n 2, 1) := by decide +kernel
theorem dX8_placesNeeded_135 : decode cX8_placesNeeded 135 = .ok (.aaload, 1) := by decide +kernel
theorem dX8_placesNeeded_136 : decode cX8_placesNeeded 136 = .ok (.astore_n 3, 1) := by decide +kernel
theorem dX8_placesNeeded_137 : decode cX8_placesNeeded 137 = .ok (.aload_n 3, 1) := by decide +kernel
theorem dX8_placesNeeded_138 : decode cX8_placesNeeded 138 = .ok (.iconst 2, 1) := by decide +kernel
theorem dX8_placesNeeded_139 : decode cX8_placesNeeded 139 = .ok (.iaload, 1) := by decide +kernel
theorem dX8_placesNeeded_140 : decode cX8_placesNeeded 140 = .ok (.iload_n 1, 1) := by decide +kernel
theorem dX8_placesNeeded_141 : decode cX8_placesNeeded 141 = .ok (.if_icmp .le 9, 3) := by decide +kernel
theorem dX8_placesNeeded_144 : decode cX8_placesNeeded 144 = .ok (.aload_n 3, 1) := by decide +kernel
theorem dX8_placesNeeded_145 : decode cX8_placesNeeded 145 = .ok (.iconst 2, 1) := by decide +kernel
theorem dX8_placesNeeded_146 : decode cX8_placesNeeded 146 = .ok (.iaload, 1) := by decide +kernel
theorem dX8_placesNeeded_147 : decode cX8_placesNeeded 147 = .ok (.goto 4, 3) := by decide +kernel
theorem dX8_placesNeeded_150 : decode cX8_placesNeeded 150 = .ok (.iload_n 1, 1) := by decide +kernel
theorem dX8_placesNeeded_151 : decode cX8_placesNeeded 151 = .ok (.istore_n 1, 1) := by decide +kernel
theorem dX8_placesNeeded_152 : decode cX8_placesNeeded 152 = .ok (.aload_n 3, 1) := by decide +kernel
theorem dX8_placesNeeded_153 : decode cX8_placesNeeded 153 = .ok (.iconst 3, 1) := by decide +kernel
theorem dX8_placesNeeded_154 : decode cX8_placesNeeded 154 = .ok (.iaload, 1) := by decide +kernel
theorem dX8_placesNeeded_155 : decode cX8_placesNeeded 155 = .ok (.iload_n 1, 1) := by decide +kernel
theorem dX8_placesNeeded_156 : decode cX8_placesNeeded 156 = .ok (.if_icmp .le 9, 3) := by decide +kernel
theorem dX8_placesNeeded_159 : decode cX8_placesNeeded 159 = .ok (.aload_n 3, 1) := by decide +kernel
theorem dX8_placesNeeded_160 : decode cX8_placesNeeded 160 = .ok (.iconst 3, 1) := by decide +kernel
theorem dX8_placesNeeded_161 : decode cX8_placesNeeded 161 = .ok (.iaload, 1) := by decide +kernel
theorem dX8_placesNeeded_162 : decode cX8_placesNeeded 162 = .ok (.goto 4, 3) := by decide +kernel
theorem dX8_placesNeeded_165 : decode cX8_placesNeeded 165 = .ok (.iload_n 1, 1) := by decide +kernel
theorem dX8_placesNeeded_166 : decode cX8_placesNeeded 166 = .ok (.istore_n 1, 1) := by decide +kernel
theorem dX8_placesNeeded_167 : decode cX8_placesNeeded 167 = .ok (.aload_n 3, 1) := by decide +kernel
theorem dX8_placesNeeded_168 : decode cX8_placesNeeded 168 = .ok (.bipush 7, 2) := by decide +kernel
theorem dX8_placesNeeded_170 : decode cX8_placesNeeded 170 = .ok (.iaload, 1) := by decide +kernel
theorem dX8_placesNeeded_171 : decode cX8_placesNeeded 171 = .ok (.bipush 10, 2) := by decide +kernel
theorem dX8_placesNeeded_173 : decode cX8_placesNeeded 173 = .ok (.if_icmp .ge 18, 3) := by decide +kernel
theorem dX8_placesNeeded_176 : decode cX8_placesNeeded 176 = .ok (.aload_n 3, 1) := by decide +kernel
theorem dX8_placesNeeded_177 : decode cX8_placesNeeded 177 = .ok (.bipush 7, 2) := by decide +kernel
theorem dX8_placesNeeded_179 : decode cX8_placesNeeded 179 = .ok (.iaload, 1) := by decide +kernel
theorem dX8_placesNeeded_180 : decode cX8_placesNeeded 180 = .ok (.iload_n 1, 1) := by decide +kernel
theorem dX8_placesNeeded_181 : decode cX8_placesNeeded 181 = .ok (.if_icmp .le 10, 3) := by decide +kernel
theorem dX8_placesNeeded_184 : decode cX8_placesNeeded 184 = .ok (.aload_n 3, 1) := by decide +kernel
theorem dX8_placesNeeded_185 : decode cX8_placesNeeded 185 = .ok (.bipush 7, 2) := by decide +kernel
theorem dX8_placesNeeded_187 : decode cX8_placesNeeded 187 = .ok (.iaload, 1) := by decide +kernel
theorem dX8_placesNeeded_188 : decode cX8_placesNeeded 188 = .ok (.goto 4, 3) := by decide +kernel
theorem dX8_placesNeeded_191 : decode cX8_placesNeeded 191 = .ok (.iload_n 1, 1) := by decide +kernel
theorem dX8_placesNeeded_192 : decode cX8_placesNeeded 192 = .ok (.istore_n 1, 1) := by decide +kernel
theorem dX8_placesNeeded_193 : decode cX8_placesNeeded 193 = .ok (.iinc 2 1, 3) := by decide +kernel
theorem dX8_placesNeeded_196 : decode cX8_placesNeeded 196 = .ok (.goto (-74), 3) := by decide +kernel
theorem dX8_placesNeeded_199 : decode cX8_placesNeeded 199 = .ok (.iload_n 1, 1) := by decide +kernel
theorem dX8_placesNeeded_200 : decode cX8_placesNeeded 200 = .ok (.iconst 1, 1) := by decide +kernel
theorem dX8_placesNeeded_201 : decode cX8_placesNeeded 201 = .ok (.iadd, 1) := by decide +kernel
theorem dX8_placesNeeded_202 : decode cX8_placesNeeded 202 = .ok (.ireturn, 1) := by decide +kernel
theorem dX8_placesCome_0 : decode cX8_placesCome 0 = .ok (.aload_n 0, 1) := by decide +kernel
theorem dX8_placesCome_1 : decode cX8_placesCome 1 = .ok (.getfield 34, 3) := by decide +kernel
theorem dX8_placesCome_4 : decode cX8_placesCome 4 = .ok (.iconst 0, 1) := by decide +kernel
theorem dX8_placesCome_5 : decode cX8_placesCome 5 = .ok (.iaload, 1) := by decide +kernel
theorem dX8_placesCome_6 : decode cX8_placesCome 6 = .ok (.aload_n 0, 1) := by decide +kernel
theorem dX8_placesCome_7 : decode cX8_placesCome 7 = .ok (.invokevirtual 101, 3) := by decide +kernel
theorem dX8_placesCome_10 : decode cX8_placesCome 10 = .ok (.bipush 7, 2) := by decide +kernel
theorem dX8_placesCome_12 : decode cX8_placesCome 12 = .ok (.invokestatic 61, 3) := by decide +kernel
theorem dX8_placesCome_15 : decode cX8_placesCome 15 = .ok (.ifCond .ne 5, 3) := by decide +kernel
theorem dX8_placesCome_18 : decode cX8_placesCome 18 = .ok (.iconst 0, 1) := by decide +kernel
theorem dX8_placesCome_19 : decode cX8_placesCome 19 = .ok (.ireturn, 1) := by decide +kernel
theorem dX8_placesCome_20 : decode cX8_placesCome 20 = .ok (.aload_n 0, 1) := by decide +kernel
theorem dX8_placesCome_21 : decode cX8_placesCome 21 = .ok (.aload_n 0, 1) := by decide +kernel
theorem dX8_placesCome_22 : decode cX8_placesCome 22 = .ok (.getfield 34, 3) := by decide +kernel
theorem dX8_placesCome_25 : decode cX8_placesCome 25 = .ok (.iconst 0, 1) := by decide +kernel
theorem dX8_placesCome_26 : decode cX8_placesCome 26 = .ok (.iaload, 1) := by decide +kernel
theorem dX8_placesCome_27 : decode cX8_placesCome 27 = .ok (.putfield 19, 3) := by decide +kernel
theorem dX8_placesCome_30 : decode cX8_placesCome 30 = .ok (.iconst 1, 1) := by decide +kernel
theorem dX8_placesCome_31 : decode cX8_placesCome 31 = .ok (.ireturn, 1) := by decide +kernel
theorem dX8_wayComes_0 : decode cX8_wayComes 0 = .ok (.aload_n 0, 1) := by decide +kernel
theorem dX8_wayComes_1 : decode cX8_wayComes 1 = .ok (.aload_n 0, 1) := by decide +kernel
theorem dX8_wayComes_2 : decode cX8_wayComes 2 = .ok (.getfield 34, 3) := by decide +kernel
theorem dX8_wayComes_5 : decode cX8_wayComes 5 = .ok (.iconst 0, 1) := by decide +kernel
theorem dX8_wayComes_6 : decode cX8_wayComes 6 = .ok (.iaload, 1) := by decide +kernel
theorem dX8_wayComes_7 : decode cX8_wayComes 7 = .ok (.invokevirtual 105, 3) := by decide +kernel
theorem dX8_wayComes_10 : decode cX8_wayComes 10 = .ok (.ifCond .eq 46, 3) := by decide +kernel
theorem dX8_wayComes_13 : decode cX8_wayComes 13 = .ok (.aload_n 0, 1) := by decide +kernel
theorem dX8_wayComes_14 : decode cX8_wayComes 14 = .ok (.aload_n 0, 1) := by decide +kernel
theorem dX8_wayComes_15 : decode cX8_wayComes 15 = .ok (.getfield 34, 3) := by decide +kernel
theorem dX8_wayComes_18 : decode cX8_wayComes 18 = .ok (.iconst 1, 1) := by decide +kernel
theorem dX8_wayComes_19 : decode cX8_wayComes 19 = .ok (.iaload, 1) := by decide +kernel
theorem dX8_wayComes_20 : decode cX8_wayComes 20 = .ok (.invokevirtual 105, 3) := by decide +kernel
theorem dX8_wayComes_23 : decode cX8_wayComes 23 = .ok (.ifCond .eq 33, 3) := by decide +kernel
theorem dX8_wayComes_26 : decode cX8_wayComes 26 = .ok (.aload_n 0, 1) := by decide +kernel
theorem dX8_wayComes_27 : decode cX8_wayComes 27 = .ok (.getfield 34, 3) := by decide +kernel
theorem dX8_wayComes_30 : decode cX8_wayComes 30 = .ok (.iconst 0, 1) := by decide +kernel
theorem dX8_wayComes_31 : decode cX8_wayComes 31 = .ok (.iaload, 1) := by decide +kernel
theorem dX8_wayComes_32 : decode cX8_wayComes 32 = .ok (.aload_n 0, 1) := by decide +kernel
theorem dX8_wayComes_33 : decode cX8_wayComes 33 = .ok (.getfield 34, 3) := by decide +kernel
theorem dX8_wayComes_36 : decode cX8_wayComes 36 = .ok (.iconst 1, 1) := by decide +kernel
theorem dX8_wayComes_37 : decode cX8_wayComes 37 = .ok (.iaload, 1) := by decide +kernel
theorem dX8_wayComes_38 : decode cX8_wayComes 38 = .ok (.if_icmp .eq 18, 3) := by decide +kernel
theorem dX8_wayComes_41 : decode cX8_wayComes 41 = .ok (.aload_n 0, 1) := by decide +kernel
theorem dX8_wayComes_42 : decode cX8_wayComes 42 = .ok (.getfield 34, 3) := by decide +kernel
theorem dX8_wayComes_45 : decode cX8_wayComes 45 = .ok (.iconst 2, 1) := by decide +kernel
theorem dX8_wayComes_46 : decode cX8_wayComes 46 = .ok (.iaload, 1) := by decide +kernel
theorem dX8_wayComes_47 : decode cX8_wayComes 47 = .ok (.iconst 1, 1) := by decide +kernel
theorem dX8_wayComes_48 : decode cX8_wayComes 48 = .ok (.bipush 60, 2) := by decide +kernel
theorem dX8_wayComes_50 : decode cX8_wayComes 50 = .ok (.invokestatic 61, 3) := by decide +kernel
theorem dX8_wayComes_53 : decode cX8_wayComes 53 = .ok (.ifCond .ne 5, 3) := by decide +kernel
theorem dX8_wayComes_56 : decode cX8_wayComes 56 = .ok (.iconst 0, 1) := by decide +kernel
theorem dX8_wayComes_57 : decode cX8_wayComes 57 = .ok (.ireturn, 1) := by decide +kernel
theorem dX8_wayComes_58 : decode cX8_wayComes 58 = .ok (.aload_n 0, 1) := by decide +kernel
theorem dX8_wayComes_59 : decode cX8_wayComes 59 = .ok (.getfield 25, 3) := by decide +kernel
theorem dX8_wayComes_62 : decode cX8_wayComes 62 = .ok (.aload_n 0, 1) := by decide +kernel
theorem dX8_wayComes_63 : decode cX8_wayComes 63 = .ok (.getfield 34, 3) := by decide +kernel
theorem dX8_wayComes_66 : decode cX8_wayComes 66 = .ok (.iconst 0, 1) := by decide +kernel
theorem dX8_wayComes_67 : decode cX8_wayComes 67 = .ok (.iaload, 1) := by decide +kernel
theorem dX8_wayComes_68 : decode cX8_wayComes 68 = .ok (.aaload, 1) := by decide +kernel
theorem dX8_wayComes_69 : decode cX8_wayComes 69 = .ok (.aload_n 0, 1) := by decide +kernel
theorem dX8_wayComes_70 : decode cX8_wayComes 70 = .ok (.getfield 34, 3) := by decide +kernel
theorem dX8_wayComes_73 : decode cX8_wayComes 73 = .ok (.iconst 1, 1) := by decide +kernel
theorem dX8_wayComes_74 : decode cX8_wayComes 74 = .ok (.iaload, 1) := by decide +kernel
theorem dX8_wayComes_75 : decode cX8_wayComes 75 = .ok (.aload_n 0, 1) := by decide +kernel
theorem dX8_wayComes_76 : decode cX8_wayComes 76 = .ok (.getfield 34, 3) := by decide +kernel
theorem dX8_wayComes_79 : decode cX8_wayComes 79 = .ok (.iconst 2, 1) := by decide +kernel
theorem dX8_wayComes_80 : decode cX8_wayComes 80 = .ok (.iaload, 1) := by decide +kernel
theorem dX8_wayComes_81 : decode cX8_wayComes 81 = .ok (.iastore, 1) := by decide +kernel
theorem dX8_wayComes_82 : decode cX8_wayComes 82 = .ok (.aload_n 0, 1) := by decide +kernel
theorem dX8_wayComes_83 : decode cX8_wayComes 83 = .ok (.getfield 25, 3) := by decide +kernel
theorem dX8_wayComes_86 : decode cX8_wayComes 86 = .ok (.aload_n 0, 1) := by decide +kernel
theorem dX8_wayComes_87 : decode cX8_wayComes 87 = .ok (.getfield 34, 3) := by decide +kernel
theorem dX8_wayComes_90 : decode cX8_wayComes 90 = .ok (.iconst 1, 1) := by decide +kernel
theorem dX8_wayComes_91 : decode cX8_wayComes 91 = .ok (.iaload, 1) := by decide +kernel
theorem dX8_wayComes_92 : decode cX8_wayComes 92 = .ok (.aaload, 1) := by decide +kernel
theorem dX8_wayComes_93 : decode cX8_wayComes 93 = .ok (.aload_n 0, 1) := by decide +kernel
theorem dX8_wayComes_94 : decode cX8_wayComes 94 = .ok (.getfield 34, 3) := by decide +kernel
theorem dX8_wayComes_97 : decode cX8_wayComes 97 = .ok (.iconst 0, 1) := by decide +kernel
theorem dX8_wayComes_98 : decode cX8_wayComes 98 = .ok (.iaload, 1) := by decide +kernel
theorem dX8_wayComes_99 : decode cX8_wayComes 99 = .ok (.aload_n 0, 1) := by decide +kernel
theorem dX8_wayComes_100 : decode cX8_wayComes 100 = .ok (.getfield 34, 3) := by decide +kernel
theorem dX8_wayComes_103 : decode cX8_wayComes 103 = .ok (.iconst 2, 1) := by decide +kernel
theorem dX8_wayComes_104 : decode cX8_wayComes 104 = .ok (.iaload, 1) := by decide +kernel
theorem dX8_wayComes_105 : decode cX8_wayComes 105 = .ok (.iastore, 1) := by decide +kernel
theorem dX8_wayComes_106 : decode cX8_wayComes 106 = .ok (.iconst 1, 1) := by decide +kernel
theorem dX8_wayComes_107 : decode cX8_wayComes 107 = .ok (.ireturn, 1) := by decide +kernel
theorem dX8_personComes_0 : decode cX8_personComes 0 = .ok (.aload_n 0, 1) := by decide +kernel
theorem dX8_personComes_1 : decode cX8_personComes 1 = .ok (.aload_n 0, 1) := by decide +kernel
theorem dX8_personComes_2 : decode cX8_personComes 2 = .ok (.getfield 34, 3) := by decide +kernel
theorem dX8_personComes_5 : decode cX8_personComes 5 = .ok (.iconst 0, 1) := by decide +kernel
theorem dX8_personComes_6 : decode cX8_personComes 6 = .ok (.iaload, 1) := by decide +kernel
theorem dX8_personComes_7 : decode cX8_personComes 7 = .ok (.invokevirtual 105, 3) := by decide +kernel
theorem dX8_personComes_10 : decode cX8_personComes 10 = .ok (.ifCond .eq 37, 3) := by decide +kernel
theorem dX8_personComes_13 : decode cX8_personComes 13 = .ok (.aload_n 0, 1) := by decide +kernel
theorem dX8_personComes_14 : decode cX8_personComes 14 = .ok (.aload_n 0, 1) := by decide +kernel
theorem dX8_personComes_15 : decode cX8_personComes 15 = .ok (.getfield 34, 3) := by decide +kernel
theorem dX8_personComes_18 : decode cX8_personComes 18 = .ok (.iconst 1, 1) := by decide +kernel
theorem dX8_personComes_19 : decode cX8_personComes 19 = .ok (.iaload, 1) := by decide +kernel
theorem dX8_personComes_20 : decode cX8_personComes 20 = .ok (.invokevirtual 105, 3) := by decide +kernel
theorem dX8_personComes_23 : decode cX8_personComes 23 = .ok (.ifCond .eq 24, 3) := by decide +kernel
theorem dX8_personComes_26 : decode cX8_personComes 26 = .ok (.aload_n 0, 1) := by decide +kernel
theorem dX8_personComes_27 : decode cX8_personComes 27 = .ok (.getfield 34, 3) := by decide +kernel
theorem dX8_personComes_30 : decode cX8_personComes 30 = .ok (.iconst 2, 1) := by decide +kernel
theorem dX8_personComes_31 : decode cX8_personComes 31 = .ok (.iaload, 1) := by decide +kernel
theorem dX8_personComes_32 : decode cX8_personComes 32 = .ok (.sipush 720, 3) := by decide +kernel
theorem dX8_personComes_35 : decode cX8_personComes 35 = .ok (.if_icmp .gt 12, 3) := by decide +kernel
theorem dX8_personComes_38 : decode cX8_personComes 38 = .ok (.aload_n 0, 1) := by decide +kernel
theorem dX8_personComes_39 : decode cX8_personComes 39 = .ok (.getfield 65, 3) := by decide +kernel
theorem dX8_personComes_42 : decode cX8_personComes 42 = .ok (.bipush 6, 2) := by decide +kernel
theorem dX8_personComes_44 : decode cX8_personComes 44 = .ok (.if_icmp .ne 5, 3) := by decide +kernel
theorem dX8_personComes_47 : decode cX8_personComes 47 = .ok (.iconst 0, 1) := by decide +kernel
theorem dX8_personComes_48 : decode cX8_personComes 48 = .ok (.ireturn, 1) := by decide +kernel
theorem dX8_personComes_49 : decode cX8_personComes 49 = .ok (.aload_n 0, 1) := by decide +kernel
theorem dX8_personComes_50 : decode cX8_personComes 50 = .ok (.getfield 28, 3) := by decide +kernel
theorem dX8_personComes_53 : decode cX8_personComes 53 = .ok (.aload_n 0, 1) := by decide +kernel
theorem dX8_personComes_54 : decode cX8_personComes 54 = .ok (.dup, 1) := by decide +kernel
theorem dX8_personComes_55 : decode cX8_personComes 55 = .ok (.getfield 65, 3) := by decide +kernel
theorem dX8_personComes_58 : decode cX8_personComes 58 = .ok (.dup_x1, 1) := by decide +kernel
theorem dX8_personComes_59 : decode cX8_personComes 59 = .ok (.iconst 1, 1) := by decide +kernel
theorem dX8_personComes_60 : decode cX8_personComes 60 = .ok (.iadd, 1) := by decide +kernel
theorem dX8_personComes_61 : decode cX8_personComes 61 = .ok (.putfield 65, 3) := by decide +kernel
theorem dX8_personComes_64 : decode cX8_personComes 64 = .ok (.aaload, 1) := by decide +kernel
theorem dX8_personComes_65 : decode cX8_personComes 65 = .ok (.astore_n 1, 1) := by decide +kernel
theorem dX8_personComes_66 : decode cX8_personComes 66 = .ok (.iconst 0, 1) := by decide +kernel
theorem dX8_personComes_67 : decode cX8_personComes 67 = .ok (.istore_n 2, 1) := by decide +kernel
theorem dX8_personComes_68 : decode cX8_personComes 68 = .ok (.iload_n 2, 1) := by decide +kernel
theorem dX8_personComes_69 : decode cX8_personComes 69 = .ok (.iconst 5, 1) := by decide +kernel
theorem dX8_personComes_70 : decode cX8_personComes 70 = .ok (.if_icmp .ge 18, 3) := by decide +kernel
theorem dX8_personComes_73 : decode cX8_personComes 73 = .ok (.aload_n 1, 1) := by decide +kernel
theorem dX8_personComes_74 : decode cX8_personComes 74 = .ok (.iload_n 2, 1) := by decide +kernel
theorem dX8_personComes_75 : decode cX8_personComes 75 = .ok (.aload_n 0, 1) := by decide +kernel
theorem dX8_personComes_76 : decode cX8_personComes 76 = .ok (.getfield 34, 3) := by decide +kernel
theorem dX8_personComes_79 : decode cX8_personComes 79 = .ok (.iload_n 2, 1) := by decide +kernel
theorem dX8_personComes_80 : decode cX8_personComes 80 = .ok (.iaload, 1) := by decide +kernel
theorem dX8_personComes_81 : decode cX8_personComes 81 = .ok (.iastore, 1) := by decide +kernel
theorem dX8_personComes_82 : decode cX8_personComes 82 = .ok (.iinc 2 1, 3) := by decide +kernel
theorem dX8_personComes_85 : decode cX8_personComes 85 = .ok (.goto (-17), 3) := by decide +kernel
theorem dX8_personComes_88 : decode cX8_personComes 88 = .ok (.aload_n 1, 1) := by decide +kernel
theorem dX8_personComes_89 : decode cX8_personComes 89 = .ok (.iconst 5, 1) := by decide +kernel
theorem dX8_personComes_90 : decode cX8_personComes 90 = .ok (.aload_n 1, 1) := by decide +kernel
theorem dX8_personComes_91 : decode cX8_personComes 91 = .ok (.iconst 0, 1) := by decide +kernel
theorem dX8_personComes_92 : decode cX8_personComes 92 = .ok (.iaload, 1) := by decide +kernel
theorem dX8_personComes_93 : decode cX8_personComes 93 = .ok (.iastore, 1) := by decide +kernel
theorem dX8_personComes_94 : decode cX8_personComes 94 = .ok (.aload_n 1, 1) := by decide +kernel
theorem dX8_personComes_95 : decode cX8_personComes 95 = .ok (.bipush 6, 2) := by decide +kernel
theorem dX8_personComes_97 : decode cX8_personComes 97 = .ok (.aload_n 1, 1) := by decide +kernel
theorem dX8_personComes_98 : decode cX8_personComes 98 = .ok (.iconst 2, 1) := by decide +kernel
theorem dX8_personComes_99 : decode cX8_personComes 99 = .ok (.iaload, 1) := by decide +kernel
theorem dX8_personComes_100 : decode cX8_personComes 100 = .ok (.iastore, 1) := by decide +kernel
theorem dX8_personComes_101 : decode cX8_personComes 101 = .ok (.iconst 1, 1) := by decide +kernel
theorem dX8_personComes_102 : decode cX8_personComes 102 = .ok (.ireturn, 1) := by decide +kernel
theorem dX8_thingComes_0 : decode cX8_thingComes 0 = .ok (.aload_n 0, 1) := by decide +kernel
theorem dX8_thingComes_1 : decode cX8_thingComes 1 = .ok (.aload_n 0, 1) := by decide +kernel
theorem dX8_thingComes_2 : decode cX8_thingComes 2 = .ok (.getfield 34, 3) := by decide +kernel
theorem dX8_thingComes_5 : decode cX8_thingComes 5 = .ok (.iconst 0, 1) := by decide +kernel
theorem dX8_thingComes_6 : decode cX8_thingComes 6 = .ok (.iaload, 1) := by decide +kernel
theorem dX8_thingComes_7 : decode cX8_thingComes 7 = .ok (.invokevirtual 108, 3) := by decide +kernel
theorem dX8_thingComes_10 : decode cX8_thingComes 10 = .ok (.ifCond .eq 46, 3) := by decide +kernel
theorem dX8_thingComes_13 : decode cX8_thingComes 13 = .ok (.aload_n 0, 1) := by decide +kernel
theorem dX8_thingComes_14 : decode cX8_thingComes 14 = .ok (.aload_n 0, 1) := by decide +kernel
theorem dX8_thingComes_15 : decode cX8_thingComes 15 = .ok (.getfield 34, 3) := by decide +kernel
theorem dX8_thingComes_18 : decode cX8_thingComes 18 = .ok (.iconst 1, 1) := by decide +kernel
theorem dX8_thingComes_19 : decode cX8_thingComes 19 = .ok (.iaload, 1) := by decide +kernel
theorem dX8_thingComes_20 : decode cX8_thingComes 20 = .ok (.invokevirtual 108, 3) := by decide +kernel
theorem dX8_thingComes_23 : decode cX8_thingComes 23 = .ok (.ifCond .eq 33, 3) := by decide +kernel
theorem dX8_thingComes_26 : decode cX8_thingComes 26 = .ok (.aload_n 0, 1) := by decide +kernel
theorem dX8_thingComes_27 : decode cX8_thingComes 27 = .ok (.aload_n 0, 1) := by decide +kernel
theorem dX8_thingComes_28 : decode cX8_thingComes 28 = .ok (.getfield 34, 3) := by decide +kernel
theorem dX8_thingComes_31 : decode cX8_thingComes 31 = .ok (.iconst 2, 1) := by decide +kernel
theorem dX8_thingComes_32 : decode cX8_thingComes 32 = .ok (.iaload, 1) := by decide +kernel
theorem dX8_thingComes_33 : decode cX8_thingComes 33 = .ok (.invokevirtual 105, 3) := by decide +kernel
theorem dX8_thingComes_36 : decode cX8_thingComes 36 = .ok (.ifCond .eq 20, 3) := by decide +kernel
theorem dX8_thingComes_39 : decode cX8_thingComes 39 = .ok (.aload_n 0, 1) := by decide +kernel
theorem dX8_thingComes_40 : decode cX8_thingComes 40 = .ok (.aload_n 0, 1) := by decide +kernel
theorem dX8_thingComes_41 : decode cX8_thingComes 41 = .ok (.getfield 34, 3) := by decide +kernel
theorem dX8_thingComes_44 : decode cX8_thingComes 44 = .ok (.iconst 3, 1) := by decide +kernel
theorem dX8_thingComes_45 : decode cX8_thingComes 45 = .ok (.iaload, 1) := by decide +kernel
theorem dX8_thingComes_46 : decode cX8_thingComes 46 = .ok (.invokevirtual 105, 3) := by decide +kernel
theorem dX8_thingComes_49 : decode cX8_thingComes 49 = .ok (.ifCond .eq 7, 3) := by decide +kernel
theorem dX8_thingComes_52 : decode cX8_thingComes 52 = .ok (.iconst 1, 1) := by decide +kernel
theorem dX8_thingComes_53 : decode cX8_thingComes 53 = .ok (.goto 4, 3) := by decide +kernel
theorem dX8_thingComes_56 : decode cX8_thingComes 56 = .ok (.iconst 0, 1) := by decide +kernel
theorem dX8_thingComes_57 : decode cX8_thingComes 57 = .ok (.istore_n 1, 1) := by decide +kernel
theorem dX8_thingComes_58 : decode cX8_thingComes 58 = .ok (.iload_n 1, 1) := by decide +kernel
theorem dX8_thingComes_59 : decode cX8_thingComes 59 = .ok (.ifCond .eq 22, 3) := by decide +kernel
theorem dX8_thingComes_62 : decode cX8_thingComes 62 = .ok (.aload_n 0, 1) := by decide +kernel
theorem dX8_thingComes_63 : decode cX8_thingComes 63 = .ok (.getfield 34, 3) := by decide +kernel
theorem dX8_thingComes_66 : decode cX8_thingComes 66 = .ok (.iconst 4, 1) := by decide +kernel
theorem dX8_thingComes_67 : decode cX8_thingComes 67 = .ok (.iaload, 1) := by decide +kernel
theorem dX8_thingComes_68 : decode cX8_thingComes 68 = .ok (.iconst 1, 1) := by decide +kernel
theorem dX8_thingComes_69 : decode cX8_thingComes 69 = .ok (.if_icmp .lt 12, 3) := by decide +kernel
theorem dX8_thingComes_72 : decode cX8_thingComes 72 = .ok (.aload_n 0, 1) := by decide +kernel
theorem dX8_thingComes_73 : decode cX8_thingComes 73 = .ok (.getfield 68, 3) := by decide +kernel
theorem dX8_thingComes_76 : decode cX8_thingComes 76 = .ok (.bipush 6, 2) := by decide +kernel
theorem dX8_thingComes_78 : decode cX8_thingComes 78 = .ok (.if_icmp .ne 5, 3) := by decide +kernel
theorem dX8_thingComes_81 : decode cX8_thingComes 81 = .ok (.iconst 0, 1) := by decide +kernel
theorem dX8_thingComes_82 : decode cX8_thingComes 82 = .ok (.ireturn, 1) := by decide +kernel
theorem dX8_thingComes_83 : decode cX8_thingComes 83 = .ok (.aload_n 0, 1) := by decide +kernel
theorem dX8_thingComes_84 : decode cX8_thingComes 84 = .ok (.getfield 31, 3) := by decide +kernel
theorem dX8_thingComes_87 : decode cX8_thingComes 87 = .ok (.aload_n 0, 1) := by decide +kernel
theorem dX8_thingComes_88 : decode cX8_thingComes 88 = .ok (.dup, 1) := by decide +kernel
theorem dX8_thingComes_89 : decode cX8_thingComes 89 = .ok (.getfield 68, 3) := by decide +kernel
theorem dX8_thingComes_92 : decode cX8_thingComes 92 = .ok (.dup_x1, 1) := by decide +kernel
theorem dX8_thingComes_93 : decode cX8_thingComes 93 = .ok (.iconst 1, 1) := by decide +kernel
theorem dX8_thingComes_94 : decode cX8_thingComes 94 = .ok (.iadd, 1) := by decide +kernel
theorem dX8_thingComes_95 : decode cX8_thingComes 95 = .ok (.putfield 68, 3) := by decide +kernel
theorem dX8_thingComes_98 : decode cX8_thingComes 98 = .ok (.aaload, 1) := by decide +kernel
theorem dX8_thingComes_99 : decode cX8_thingComes 99 = .ok (.astore_n 2, 1) := by decide +kernel
theorem dX8_thingComes_100 : decode cX8_thingComes 100 = .ok (.iconst 0, 1) := by decide +kernel
theorem dX8_thingComes_101 : decode cX8_thingComes 101 = .ok (.istore_n 3, 1) := by decide +kernel
theorem dX8_thingComes_102 : decode cX8_thingComes 102 = .ok (.iload_n 3, 1) := by decide +kernel
theorem dX8_thingComes_103 : decode cX8_thingComes 103 = .ok (.bipush 7, 2) := by decide +kernel
theorem dX8_thingComes_105 : decode cX8_thingComes 105 = .ok (.if_icmp .ge 18, 3) := by decide +kernel
theorem dX8_thingComes_108 : decode cX8_thingComes 108 = .ok (.aload_n 2, 1) := by decide +kernel
theorem dX8_thingComes_109 : decode cX8_thingComes 109 = .ok (.iload_n 3, 1) := by decide +kernel
theorem dX8_thingComes_110 : decode cX8_thingComes 110 = .ok (.aload_n 0, 1) := by decide +kernel
theorem dX8_thingComes_111 : decode cX8_thingComes 111 = .ok (.getfield 34, 3) := by decide +kernel
theorem dX8_thingComes_114 : decode cX8_thingComes 114 = .ok (.iload_n 3, 1) := by decide +kernel
theorem dX8_thingComes_115 : decode cX8_thingComes 115 = .ok (.iaload, 1) := by decide +kernel
theorem dX8_thingComes_116 : decode cX8_thingComes 116 = .ok (.iastore, 1) := by decide +kernel
theorem dX8_thingComes_117 : decode cX8_thingComes 117 = .ok (.iinc 3 1, 3) := by decide +kernel
theorem dX8_thingComes_120 : decode cX8_thingComes 120 = .ok (.goto (-18), 3) := by decide +kernel
theorem dX8_thingComes_123 : decode cX8_thingComes 123 = .ok (.aload_n 2, 1) := by decide +kernel
theorem dX8_thingComes_124 : decode cX8_thingComes 124 = .ok (.bipush 7, 2) := by decide +kernel
theorem dX8_thingComes_126 : decode cX8_thingComes 126 = .ok (.aload_n 2, 1) := by decide +kernel
theorem dX8_thingComes_127 : decode cX8_thingComes 127 = .ok (.iconst 2, 1) := by decide +kernel
theorem dX8_thingComes_128 : decode cX8_thingComes 128 = .ok (.iaload, 1) := by decide +kernel
theorem dX8_thingComes_129 : decode cX8_thingComes 129 = .ok (.iastore, 1) := by decide +kernel
theorem dX8_thingComes_130 : decode cX8_thingComes 130 = .ok (.aload_n 2, 1) := by decide +kernel
theorem dX8_thingComes_131 : decode cX8_thingComes 131 = .ok (.bipush 8, 2) := by decide +kernel
theorem dX8_thingComes_133 : decode cX8_thingComes 133 = .ok (.iconst 0, 1) := by decide +kernel
theorem dX8_thingComes_134 : decode cX8_thingComes 134 = .ok (.iastore, 1) := by decide +kernel
theorem dX8_thingComes_135 : decode cX8_thingComes 135 = .ok (.aload_n 2, 1) := by decide +kernel
theorem dX8_thingComes_136 : decode cX8_thingComes 136 = .ok (.bipush 9, 2) := by decide +kernel
theorem dX8_thingComes_138 : decode cX8_thingComes 138 = .ok (.bipush (-9), 2) := by decide +kernel
theorem dX8_thingComes_140 : decode cX8_thingComes 140 = .ok (.iastore, 1) := by decide +kernel
theorem dX8_thingComes_141 : decode cX8_thingComes 141 = .ok (.iconst 1, 1) := by decide +kernel
theorem dX8_thingComes_142 : decode cX8_thingComes 142 = .ok (.ireturn, 1) := by decide +kernel
theorem dX8_comes_0 : decode cX8_comes 0 = .ok (.iload_n 1, 1) := by decide +kernel
theorem dX8_comes_1 : decode cX8_comes 1 = .ok (.lookupswitch 50 #[(110, 35), (112, 45), (119, 40)], 35) := by decide +kernel
theorem dX8_comes_36 : decode cX8_comes 36 = .ok (.aload_n 0, 1) := by decide +kernel
theorem dX8_comes_37 : decode cX8_comes 37 = .ok (.invokevirtual 111, 3) := by decide +kernel
theorem dX8_comes_40 : decode cX8_comes 40 = .ok (.ireturn, 1) := by decide +kernel
theorem dX8_comes_41 : decode cX8_comes 41 = .ok (.aload_n 0, 1) := by decide +kernel
theorem dX8_comes_42 : decode cX8_comes 42 = .ok (.invokevirtual 114, 3) := by decide +kernel
theorem dX8_comes_45 : decode cX8_comes 45 = .ok (.ireturn, 1) := by decide +kernel
theorem dX8_comes_46 : decode cX8_comes 46 = .ok (.aload_n 0, 1) := by decide +kernel
theorem dX8_comes_47 : decode cX8_comes 47 = .ok (.invokevirtual 117, 3) := by decide +kernel
theorem dX8_comes_50 : decode cX8_comes 50 = .ok (.ireturn, 1) := by decide +kernel
theorem dX8_comes_51 : decode cX8_comes 51 = .ok (.aload_n 0, 1) := by decide +kernel
theorem dX8_comes_52 : decode cX8_comes 52 = .ok (.invokevirtual 120, 3) := by decide +kernel
theorem dX8_comes_55 : decode cX8_comes 55 = .ok (.ireturn, 1) := by decide +kernel
theorem dX8_town_0 : decode cX8_town 0 = .ok (.aload_n 0, 1) := by decide +kernel
theorem dX8_town_1 : decode cX8_town 1 = .ok (.invokevirtual 123, 3) := by decide +kernel
theorem dX8_town_4 : decode cX8_town 4 = .ok (.istore_n 1, 1) := by decide +kernel
theorem dX8_town_5 : decode cX8_town 5 = .ok (.iload_n 1, 1) := by decide +kernel
theorem dX8_town_6 : decode cX8_town 6 = .ok (.bipush (-9), 2) := by decide +kernel
theorem dX8_town_8 : decode cX8_town 8 = .ok (.if_icmp .eq 14, 3) := by decide +kernel
theorem dX8_town_11 : decode cX8_town 11 = .ok (.aload_n 0, 1) := by decide +kernel
theorem dX8_town_12 : decode cX8_town 12 = .ok (.iconst 0, 1) := by decide +kernel
theorem dX8_town_13 : decode cX8_town 13 = .ok (.putfield 75, 3) := by decide +kernel
theorem dX8_town_16 : decode cX8_town 16 = .ok (.sipush (-1000), 3) := by decide +kernel
theorem dX8_town_19 : decode cX8_town 19 = .ok (.iload_n 1, 1) := by decide +kernel
theorem dX8_town_20 : decode cX8_town 20 = .ok (.isub, 1) := by decide +kernel
theorem dX8_town_21 : decode cX8_town 21 = .ok (.ireturn, 1) := by decide +kernel
theorem dX8_town_22 : decode cX8_town 22 = .ok (.aload_n 0, 1) := by decide +kernel
theorem dX8_town_23 : decode cX8_town 23 = .ok (.getfield 126, 3) := by decide +kernel
theorem dX8_town_26 : decode cX8_town 26 = .ok (.ifnonnull 14, 3) := by decide +kernel
theorem dX8_town_29 : decode cX8_town 29 = .ok (.aload_n 0, 1) := by decide +kernel
theorem dX8_town_30 : decode cX8_town 30 = .ok (.new 7, 3) := by decide +kernel
theorem dX8_town_33 : decode cX8_town 33 = .ok (.dup, 1) := by decide +kernel
theorem dX8_town_34 : decode cX8_town 34 = .ok (.invokespecial 130, 3) := by decide +kernel
theorem dX8_town_37 : decode cX8_town 37 = .ok (.putfield 126, 3) := by decide +kernel
theorem dX8_town_40 : decode cX8_town 40 = .ok (.aload_n 0, 1) := by decide +kernel
theorem dX8_town_41 : decode cX8_town 41 = .ok (.getfield 126, 3) := by decide +kernel
theorem dX8_town_44 : decode cX8_town 44 = .ok (.aload_n 0, 1) := by decide +kernel
theorem dX8_town_45 : decode cX8_town 45 = .ok (.invokevirtual 131, 3) := by decide +kernel
theorem dX8_town_48 : decode cX8_town 48 = .ok (.iconst 0, 1) := by decide +kernel
theorem dX8_town_49 : decode cX8_town 49 = .ok (.istore_n 2, 1) := by decide +kernel
theorem dX8_town_50 : decode cX8_town 50 = .ok (.aload_n 0, 1) := by decide +kernel
theorem dX8_town_51 : decode cX8_town 51 = .ok (.iconst 0, 1) := by decide +kernel
theorem dX8_town_52 : decode cX8_town 52 = .ok (.putfield 78, 3) := by decide +kernel
theorem dX8_town_55 : decode cX8_town 55 = .ok (.aload_n 0, 1) := by decide +kernel
theorem dX8_town_56 : decode cX8_town 56 = .ok (.getfield 78, 3) := by decide +kernel
theorem dX8_town_59 : decode cX8_town 59 = .ok (.aload_n 0, 1) := by decide +kernel
theorem dX8_town_60 : decode cX8_town 60 = .ok (.getfield 75, 3) := by decide +kernel
theorem dX8_town_63 : decode cX8_town 63 = .ok (.if_icmp .ge 51, 3) := by decide +kernel
theorem dX8_town_66 : decode cX8_town 66 = .ok (.aload_n 0, 1) := by decide +kernel
theorem dX8_town_67 : decode cX8_town 67 = .ok (.getfield 78, 3) := by decide +kernel
theorem dX8_town_70 : decode cX8_town 70 = .ok (.istore_n 3, 1) := by decide +kernel
theorem dX8_town_71 : decode cX8_town 71 = .ok (.aload_n 0, 1) := by decide +kernel
theorem dX8_town_72 : decode cX8_town 72 = .ok (.invokevirtual 98, 3) := by decide +kernel
theorem dX8_town_75 : decode cX8_town 75 = .ok (.pop, 1) := by decide +kernel
theorem dX8_town_76 : decode cX8_town 76 = .ok (.aload_n 0, 1) := by decide +kernel
theorem dX8_town_77 : decode cX8_town 77 = .ok (.aload_n 0, 1) := by decide +kernel
theorem dX8_town_78 : decode cX8_town 78 = .ok (.getfield 9, 3) := by decide +kernel
theorem dX8_town_81 : decode cX8_town 81 = .ok (.iload_n 3, 1) := by decide +kernel
theorem dX8_town_82 : decode cX8_town 82 = .ok (.iaload, 1) := by decide +kernel
theorem dX8_town_83 : decode cX8_town 83 = .ok (.invokevirtual 135, 3) := by decide +kernel
theorem dX8_town_86 : decode cX8_town 86 = .ok (.ifCond .ne 22, 3) := by decide +kernel
theorem dX8_town_89 : decode cX8_town 89 = .ok (.aload_n 0, 1) := by decide +kernel
theorem dX8_town_90 : decode cX8_town 90 = .ok (.aload_n 0, 1) := by decide +kernel
theorem dX8_town_91 : decode cX8_town 91 = .ok (.getfield 126, 3) := by decide +kernel
theorem dX8_town_94 : decode cX8_town 94 = .ok (.invokevirtual 131, 3) := by decide +kernel
theorem dX8_town_97 : decode cX8_town 97 = .ok (.aload_n 0, 1) := by decide +kernel
theorem dX8_town_98 : decode cX8_town 98 = .ok (.iconst 0, 1) := by decide +kernel
theorem dX8_town_99 : decode cX8_town 99 = .ok (.putfield 75, 3) := by decide +kernel
theorem dX8_town_102 : decode cX8_town 102 = .ok (.sipush (-2000), 3) := by decide +kernel
theorem dX8_town_105 : decode cX8_town 105 = .ok (.iload_n 3, 1) := by decide +kernel
theorem dX8_town_106 : decode cX8_town 106 = .ok (.isub, 1) := by decide +kernel
theorem dX8_town_107 : decode cX8_town 107 = .ok (.ireturn, 1) := by decide +kernel
theorem dX8_town_108 : decode cX8_town 108 = .ok (.iinc 2 1, 3) := by decide +kernel
theorem dX8_town_111 : decode cX8_town 111 = .ok (.goto (-56), 3) := by decide +kernel
theorem dX8_town_114 : decode cX8_town 114 = .ok (.aload_n 0, 1) := by decide +kernel
theorem dX8_town_115 : decode cX8_town 115 = .ok (.iconst 0, 1) := by decide +kernel
theorem dX8_town_116 : decode cX8_town 116 = .ok (.putfield 75, 3) := by decide +kernel
theorem dX8_town_119 : decode cX8_town 119 = .ok (.iload_n 2, 1) := by decide +kernel
theorem dX8_town_120 : decode cX8_town 120 = .ok (.ireturn, 1) := by decide +kernel
theorem dX8_findFar_0 : decode cX8_findFar 0 = .ok (.iconst 0, 1) := by decide +kernel
theorem dX8_findFar_1 : decode cX8_findFar 1 = .ok (.istore_n 1, 1) := by decide +kernel
theorem dX8_findFar_2 : decode cX8_findFar 2 = .ok (.iload_n 1, 1) := by decide +kernel
theorem dX8_findFar_3 : decode cX8_findFar 3 = .ok (.aload_n 0, 1) := by decide +kernel
theorem dX8_findFar_4 : decode cX8_findFar 4 = .ok (.getfield 19, 3) := by decide +kernel
theorem dX8_findFar_7 : decode cX8_findFar 7 = .ok (.if_icmp .ge 66, 3) := by decide +kernel
theorem dX8_findFar_10 : decode cX8_findFar 10 = .ok (.iconst 0, 1) := by decide +kernel
theorem dX8_findFar_11 : decode cX8_findFar 11 = .ok (.istore_n 2, 1) := by decide +kernel
theorem dX8_findFar_12 : decode cX8_findFar 12 = .ok (.iload_n 2, 1) := by decide +kernel
theorem dX8_findFar_13 : decode cX8_findFar 13 = .ok (.aload_n 0, 1) := by decide +kernel
theorem dX8_findFar_14 : decode cX8_findFar 14 = .ok (.getfield 19, 3) := by decide +kernel
theorem dX8_findFar_17 : decode cX8_findFar 17 = .ok (.if_icmp .ge 50, 3) := by decide +kernel
theorem dX8_findFar_20 : decode cX8_findFar 20 = .ok (.aload_n 0, 1) := by decide +kernel
theorem dX8_findFar_21 : decode cX8_findFar 21 = .ok (.getfield 37, 3) := by decide +kernel
theorem dX8_findFar_24 : decode cX8_findFar 24 = .ok (.iload_n 1, 1) := by decide +kernel
theorem dX8_findFar_25 : decode cX8_findFar 25 = .ok (.aaload, 1) := by decide +kernel
theorem dX8_findFar_26 : decode cX8_findFar 26 = .ok (.iload_n 2, 1) := by decide +kernel
theorem dX8_findFar_27 : decode cX8_findFar 27 = .ok (.iload_n 1, 1) := by decide +kernel
theorem dX8_findFar_28 : decode cX8_findFar 28 = .ok (.iload_n 2, 1) := by decide +kernel
theorem dX8_findFar_29 : decode cX8_findFar 29 = .ok (.if_icmp .ne 7, 3) := by decide +kernel
theorem dX8_findFar_32 : decode cX8_findFar 32 = .ok (.iconst 0, 1) := by decide +kernel
theorem dX8_findFar_33 : decode cX8_findFar 33 = .ok (.goto 27, 3) := by decide +kernel
theorem dX8_findFar_36 : decode cX8_findFar 36 = .ok (.aload_n 0, 1) := by decide +kernel
theorem dX8_findFar_37 : decode cX8_findFar 37 = .ok (.getfield 25, 3) := by decide +kernel
theorem dX8_findFar_40 : decode cX8_findFar 40 = .ok (.iload_n 1, 1) := by decide +kernel
theorem dX8_findFar_41 : decode cX8_findFar 41 = .ok (.aaload, 1) := by decide +kernel
theorem dX8_findFar_42 : decode cX8_findFar 42 = .ok (.iload_n 2, 1) := by decide +kernel
theorem dX8_findFar_43 : decode cX8_findFar 43 = .ok (.iaload, 1) := by decide +kernel
theorem dX8_findFar_44 : decode cX8_findFar 44 = .ok (.ifCond .le 14, 3) := by decide +kernel
theorem dX8_findFar_47 : decode cX8_findFar 47 = .ok (.aload_n 0, 1) := by decide +kernel
theorem dX8_findFar_48 : decode cX8_findFar 48 = .ok (.getfield 25, 3) := by decide +kernel
theorem dX8_findFar_51 : decode cX8_findFar 51 = .ok (.iload_n 1, 1) := by decide +kernel
theorem dX8_findFar_52 : decode cX8_findFar 52 = .ok (.aaload, 1) := by decide +kernel
theorem dX8_findFar_53 : decode cX8_findFar 53 = .ok (.iload_n 2, 1) := by decide +kernel
theorem dX8_findFar_54 : decode cX8_findFar 54 = .ok (.iaload, 1) := by decide +kernel
theorem dX8_findFar_55 : decode cX8_findFar 55 = .ok (.goto 5, 3) := by decide +kernel
theorem dX8_findFar_58 : decode cX8_findFar 58 = .ok (.ldc 138, 2) := by decide +kernel
theorem dX8_findFar_60 : decode cX8_findFar 60 = .ok (.iastore, 1) := by decide +kernel
theorem dX8_findFar_61 : decode cX8_findFar 61 = .ok (.iinc 2 1, 3) := by decide +kernel
theorem dX8_findFar_64 : decode cX8_findFar 64 = .ok (.goto (-52), 3) := by decide +kernel
theorem dX8_findFar_67 : decode cX8_findFar 67 = .ok (.iinc 1 1, 3) := by decide +kernel
theorem dX8_findFar_70 : decode cX8_findFar 70 = .ok (.goto (-68), 3) := by decide +kernel
theorem dX8_findFar_73 : decode cX8_findFar 73 = .ok (.iconst 0, 1) := by decide +kernel
theorem dX8_findFar_74 : decode cX8_findFar 74 = .ok (.istore_n 1, 1) := by decide +kernel
theorem dX8_findFar_75 : decode cX8_findFar 75 = .ok (.iload_n 1, 1) := by decide +kernel
theorem dX8_findFar_76 : decode cX8_findFar 76 = .ok (.aload_n 0, 1) := by decide +kernel
theorem dX8_findFar_77 : decode cX8_findFar 77 = .ok (.getfield 19, 3) := by decide +kernel
theorem dX8_findFar_80 : decode cX8_findFar 80 = .ok (.if_icmp .ge 94, 3) := by decide +kernel
theorem dX8_findFar_83 : decode cX8_findFar 83 = .ok (.iconst 0, 1) := by decide +kernel
theorem dX8_findFar_84 : decode cX8_findFar 84 = .ok (.istore_n 2, 1) := by decide +kernel
theorem dX8_findFar_85 : decode cX8_findFar 85 = .ok (.iload_n 2, 1) := by decide +kernel
theorem dX8_findFar_86 : decode cX8_findFar 86 = .ok (.aload_n 0, 1) := by decide +kernel
theorem dX8_findFar_87 : decode cX8_findFar 87 = .ok (.getfield 19, 3) := by decide +kernel
theorem dX8_findFar_90 : decode cX8_findFar 90 = .ok (.if_icmp .ge 78, 3) := by decide +kernel
theorem dX8_findFar_93 : decode cX8_findFar 93 = .ok (.iconst 0, 1) := by decide +kernel
theorem dX8_findFar_94 : decode cX8_findFar 94 = .ok (.istore_n 3, 1) := by decide +kernel
theorem dX8_findFar_95 : decode cX8_findFar 95 = .ok (.iload_n 3, 1) := by decide +kernel
theorem dX8_findFar_96 : decode cX8_findFar 96 = .ok (.aload_n 0, 1) := by decide +kernel
theorem dX8_findFar_97 : decode cX8_findFar 97 = .ok (.getfield 19, 3) := by decide +kernel
theorem dX8_findFar_100 : decode cX8_findFar 100 = .ok (.if_icmp .ge 62, 3) := by decide +kernel
theorem dX8_findFar_103 : decode cX8_findFar 103 = .ok (.aload_n 0, 1) := by decide +kernel
theorem dX8_findFar_104 : decode cX8_findFar 104 = .ok (.getfield 37, 3) := by decide +kernel
theorem dX8_findFar_107 : decode cX8_findFar 107 = .ok (.iload_n 2, 1) := by decide +kernel
theorem dX8_findFar_108 : decode cX8_findFar 108 = .ok (.aaload, 1) := by decide +kernel
theorem dX8_findFar_109 : decode cX8_findFar 109 = .ok (.iload_n 1, 1) := by decide +kernel
theorem dX8_findFar_110 : decode cX8_findFar 110 = .ok (.iaload, 1) := by decide +kernel
theorem dX8_findFar_111 : decode cX8_findFar 111 = .ok (.aload_n 0, 1) := by decide +kernel
theorem dX8_findFar_112 : decode cX8_findFar 112 = .ok (.getfield 37, 3) := by decide +kernel
theorem dX8_findFar_115 : decode cX8_findFar 115 = .ok (.iload_n 1, 1) := by decide +kernel
theorem dX8_findFar_116 : decode cX8_findFar 116 = .ok (.aaload, 1) := by decide +kernel
theorem dX8_findFar_117 : decode cX8_findFar 117 = .ok (.iload_n 3, 1) := by decide +kernel
theorem dX8_findFar_118 : decode cX8_findFar 118 = .ok (.iaload, 1) := by decide +kernel
theorem dX8_findFar_119 : decode cX8_findFar 119 = .ok (.iadd, 1) := by decide +kernel
theorem dX8_findFar_120 : decode cX8_findFar 120 = .ok (.istore 4, 2) := by decide +kernel
theorem dX8_findFar_122 : decode cX8_findFar 122 = .ok (.aload_n 0, 1) := by decide +kernel
theorem dX8_findFar_123 : decode cX8_findFar 123 = .ok (.getfield 37, 3) := by decide +kernel
theorem dX8_findFar_126 : decode cX8_findFar 126 = .ok (.iload_n 2, 1) := by decide +kernel
theorem dX8_findFar_127 : decode cX8_findFar 127 = .ok (.aaload, 1) := by decide +kernel
theorem dX8_findFar_128 : decode cX8_findFar 128 = .ok (.iload_n 3, 1) := by decide +kernel
theorem dX8_findFar_129 : decode cX8_findFar 129 = .ok (.iload 4, 2) := by decide +kernel
theorem dX8_findFar_131 : decode cX8_findFar 131 = .ok (.aload_n 0, 1) := by decide +kernel
theorem dX8_findFar_132 : decode cX8_findFar 132 = .ok (.getfield 37, 3) := by decide +kernel
theorem dX8_findFar_135 : decode cX8_findFar 135 = .ok (.iload_n 2, 1) := by decide +kernel
theorem dX8_findFar_136 : decode cX8_findFar 136 = .ok (.aaload, 1) := by decide +kernel
theorem dX8_findFar_137 : decode cX8_findFar 137 = .ok (.iload_n 3, 1) := by decide +kernel
theorem dX8_findFar_138 : decode cX8_findFar 138 = .ok (.iaload, 1) := by decide +kernel
theorem dX8_findFar_139 : decode cX8_findFar 139 = .ok (.if_icmp .ge 8, 3) := by decide +kernel
theorem dX8_findFar_142 : decode cX8_findFar 142 = .ok (.iload 4, 2) := by decide +kernel
theorem dX8_findFar_144 : decode cX8_findFar 144 = .ok (.goto 11, 3) := by decide +kernel
theorem dX8_findFar_147 : decode cX8_findFar 147 = .ok (.aload_n 0, 1) := by decide +kernel
theorem dX8_findFar_148 : decode cX8_findFar 148 = .ok (.getfield 37, 3) := by decide +kernel
theorem dX8_findFar_151 : decode cX8_findFar 151 = .ok (.iload_n 2, 1) := by decide +kernel
theorem dX8_findFar_152 : decode cX8_findFar 152 = .ok (.aaload, 1) := by decide +kernel
theorem dX8_findFar_153 : decode cX8_findFar 153 = .ok (.iload_n 3, 1) := by decide +kernel
theorem dX8_findFar_154 : decode cX8_findFar 154 = .ok (.iaload, 1) := by decide +kernel
theorem dX8_findFar_155 : decode cX8_findFar 155 = .ok (.iastore, 1) := by decide +kernel
theorem dX8_findFar_156 : decode cX8_findFar 156 = .ok (.iinc 3 1, 3) := by decide +kernel
theorem dX8_findFar_159 : decode cX8_findFar 159 = .ok (.goto (-64), 3) := by decide +kernel
theorem dX8_findFar_162 : decode cX8_findFar 162 = .ok (.iinc 2 1, 3) := by decide +kernel
theorem dX8_findFar_165 : decode cX8_findFar 165 = .ok (.goto (-80), 3) := by decide +kernel
theorem dX8_findFar_168 : decode cX8_findFar 168 = .ok (.iinc 1 1, 3) := by decide +kernel
theorem dX8_findFar_171 : decode cX8_findFar 171 = .ok (.goto (-96), 3) := by decide +kernel
theorem dX8_findFar_174 : decode cX8_findFar 174 = .ok (.return_, 1) := by decide +kernel
theorem dX8_minutes_0 : decode cX8_minutes 0 = .ok (.aload_n 0, 1) := by decide +kernel
theorem dX8_minutes_1 : decode cX8_minutes 1 = .ok (.iload_n 1, 1) := by decide +kernel
theorem dX8_minutes_2 : decode cX8_minutes 2 = .ok (.invokevirtual 105, 3) := by decide +kernel
theorem dX8_minutes_5 : decode cX8_minutes 5 = .ok (.ifCond .eq 11, 3) := by decide +kernel
theorem dX8_minutes_8 : decode cX8_minutes 8 = .ok (.aload_n 0, 1) := by decide +kernel
theorem dX8_minutes_9 : decode cX8_minutes 9 = .ok (.iload_n 2, 1) := by decide +kernel
theorem dX8_minutes_10 : decode cX8_minutes 10 = .ok (.invokevirtual 105, 3) := by decide +kernel
theorem dX8_minutes_13 : decode cX8_minutes 13 = .ok (.ifCond .ne 9, 3) := by decide +kernel
theorem dX8_minutes_16 : decode cX8_minutes 16 = .ok (.aload_n 0, 1) := by decide +kernel
theorem dX8_minutes_17 : decode cX8_minutes 17 = .ok (.iconst (-1), 1) := by decide +kernel
theorem dX8_minutes_18 : decode cX8_minutes 18 = .ok (.invokevirtual 71, 3) := by decide +kernel
theorem dX8_minutes_21 : decode cX8_minutes 21 = .ok (.ireturn, 1) := by decide +kernel
theorem dX8_minutes_22 : decode cX8_minutes 22 = .ok (.aload_n 0, 1) := by decide +kernel
theorem dX8_minutes_23 : decode cX8_minutes 23 = .ok (.invokevirtual 139, 3) := by decide +kernel
theorem dX8_minutes_26 : decode cX8_minutes 26 = .ok (.aload_n 0, 1) := by decide +kernel
theorem dX8_minutes_27 : decode cX8_minutes 27 = .ok (.getfield 37, 3) := by decide +kernel
theorem dX8_minutes_30 : decode cX8_minutes 30 = .ok (.iload_n 1, 1) := by decide +kernel
theorem dX8_minutes_31 : decode cX8_minutes 31 = .ok (.aaload, 1) := by decide +kernel
theorem dX8_minutes_32 : decode cX8_minutes 32 = .ok (.iload_n 2, 1) := by decide +kernel
theorem dX8_minutes_33 : decode cX8_minutes 33 = .ok (.iaload, 1) := by decide +kernel
theorem dX8_minutes_34 : decode cX8_minutes 34 = .ok (.ldc 138, 2) := by decide +kernel
theorem dX8_minutes_36 : decode cX8_minutes 36 = .ok (.if_icmp .ge 14, 3) := by decide +kernel
theorem dX8_minutes_39 : decode cX8_minutes 39 = .ok (.aload_n 0, 1) := by decide +kernel
theorem dX8_minutes_40 : decode cX8_minutes 40 = .ok (.getfield 37, 3) := by decide +kernel
theorem dX8_minutes_43 : decode cX8_minutes 43 = .ok (.iload_n 1, 1) := by decide +kernel
theorem dX8_minutes_44 : decode cX8_minutes 44 = .ok (.aaload, 1) := by decide +kernel
theorem dX8_minutes_45 : decode cX8_minutes 45 = .ok (.iload_n 2, 1) := by decide +kernel
theorem dX8_minutes_46 : decode cX8_minutes 46 = .ok (.iaload, 1) := by decide +kernel
theorem dX8_minutes_47 : decode cX8_minutes 47 = .ok (.goto 5, 3) := by decide +kernel
theorem dX8_minutes_50 : decode cX8_minutes 50 = .ok (.bipush (-9), 2) := by decide +kernel
theorem dX8_minutes_52 : decode cX8_minutes 52 = .ok (.ireturn, 1) := by decide +kernel
theorem dX8_person_0 : decode cX8_person 0 = .ok (.aload_n 0, 1) := by decide +kernel
theorem dX8_person_1 : decode cX8_person 1 = .ok (.iload_n 1, 1) := by decide +kernel
theorem dX8_person_2 : decode cX8_person 2 = .ok (.invokevirtual 108, 3) := by decide +kernel
theorem dX8_person_5 : decode cX8_person 5 = .ok (.ifCond .ne 9, 3) := by decide +kernel
theorem dX8_person_8 : decode cX8_person 8 = .ok (.aload_n 0, 1) := by decide +kernel
theorem dX8_person_9 : decode cX8_person 9 = .ok (.iconst (-1), 1) := by decide +kernel
theorem dX8_person_10 : decode cX8_person 10 = .ok (.invokevirtual 71, 3) := by decide +kernel
theorem dX8_person_13 : decode cX8_person 13 = .ok (.ireturn, 1) := by decide +kernel
theorem dX8_person_14 : decode cX8_person 14 = .ok (.iload_n 2, 1) := by decide +kernel
theorem dX8_person_15 : decode cX8_person 15 = .ok (.iconst 0, 1) := by decide +kernel
theorem dX8_person_16 : decode cX8_person 16 = .ok (.bipush 7, 2) := by decide +kernel
theorem dX8_person_18 : decode cX8_person 18 = .ok (.invokestatic 61, 3) := by decide +kernel
theorem dX8_person_21 : decode cX8_person 21 = .ok (.ifCond .ne 10, 3) := by decide +kernel
theorem dX8_person_24 : decode cX8_person 24 = .ok (.aload_n 0, 1) := by decide +kernel
theorem dX8_person_25 : decode cX8_person 25 = .ok (.bipush (-2), 2) := by decide +kernel
theorem dX8_person_27 : decode cX8_person 27 = .ok (.invokevirtual 71, 3) := by decide +kernel
theorem dX8_person_30 : decode cX8_person 30 = .ok (.ireturn, 1) := by decide +kernel
theorem dX8_person_31 : decode cX8_person 31 = .ok (.iload_n 2, 1) := by decide +kernel
theorem dX8_person_32 : decode cX8_person 32 = .ok (.bipush 7, 2) := by decide +kernel
theorem dX8_person_34 : decode cX8_person 34 = .ok (.if_icmp .ge 14, 3) := by decide +kernel
theorem dX8_person_37 : decode cX8_person 37 = .ok (.aload_n 0, 1) := by decide +kernel
theorem dX8_person_38 : decode cX8_person 38 = .ok (.getfield 28, 3) := by decide +kernel
theorem dX8_person_41 : decode cX8_person 41 = .ok (.iload_n 1, 1) := by decide +kernel
theorem dX8_person_42 : decode cX8_person 42 = .ok (.aaload, 1) := by decide +kernel
theorem dX8_person_43 : decode cX8_person 43 = .ok (.iload_n 2, 1) := by decide +kernel
theorem dX8_person_44 : decode cX8_person 44 = .ok (.iaload, 1) := by decide +kernel
theorem dX8_person_45 : decode cX8_person 45 = .ok (.goto 8, 3) := by decide +kernel
theorem dX8_person_48 : decode cX8_person 48 = .ok (.aload_n 0, 1) := by decide +kernel
theorem dX8_person_49 : decode cX8_person 49 = .ok (.iload_n 1, 1) := by decide +kernel
theorem dX8_person_50 : decode cX8_person 50 = .ok (.invokevirtual 142, 3) := by decide +kernel
theorem dX8_person_53 : decode cX8_person 53 = .ok (.ireturn, 1) := by decide +kernel
theorem dX8_carriedBy_0 : decode cX8_carriedBy 0 = .ok (.iconst 0, 1) := by decide +kernel
theorem dX8_carriedBy_1 : decode cX8_carriedBy 1 = .ok (.istore_n 2, 1) := by decide +kernel
theorem dX8_carriedBy_2 : decode cX8_carriedBy 2 = .ok (.iconst 0, 1) := by decide +kernel
theorem dX8_carriedBy_3 : decode cX8_carriedBy 3 = .ok (.istore_n 3, 1) := by decide +kernel
theorem dX8_carriedBy_4 : decode cX8_carriedBy 4 = .ok (.iload_n 3, 1) := by decide +kernel
theorem dX8_carriedBy_5 : decode cX8_carriedBy 5 = .ok (.aload_n 0, 1) := by decide +kernel
theorem dX8_carriedBy_6 : decode cX8_carriedBy 6 = .ok (.getfield 68, 3) := by decide +kernel
theorem dX8_carriedBy_9 : decode cX8_carriedBy 9 = .ok (.if_icmp .ge 35, 3) := by decide +kernel
theorem dX8_carriedBy_12 : decode cX8_carriedBy 12 = .ok (.iload_n 2, 1) := by decide +kernel
theorem dX8_carriedBy_13 : decode cX8_carriedBy 13 = .ok (.aload_n 0, 1) := by decide +kernel
theorem dX8_carriedBy_14 : decode cX8_carriedBy 14 = .ok (.getfield 31, 3) := by decide +kernel
theorem dX8_carriedBy_17 : decode cX8_carriedBy 17 = .ok (.iload_n 3, 1) := by decide +kernel
theorem dX8_carriedBy_18 : decode cX8_carriedBy 18 = .ok (.aaload, 1) := by decide +kernel
theorem dX8_carriedBy_19 : decode cX8_carriedBy 19 = .ok (.bipush 7, 2) := by decide +kernel
theorem dX8_carriedBy_21 : decode cX8_carriedBy 21 = .ok (.iaload, 1) := by decide +kernel
theorem dX8_carriedBy_22 : decode cX8_carriedBy 22 = .ok (.bipush 10, 2) := by decide +kernel
theorem dX8_carriedBy_24 : decode cX8_carriedBy 24 = .ok (.iload_n 1, 1) := by decide +kernel
theorem dX8_carriedBy_25 : decode cX8_carriedBy 25 = .ok (.iadd, 1) := by decide +kernel
theorem dX8_carriedBy_26 : decode cX8_carriedBy 26 = .ok (.if_icmp .ne 9, 3) := by decide +kernel
theorem dX8_carriedBy_29 : decode cX8_carriedBy 29 = .ok (.iconst 1, 1) := by decide +kernel
theorem dX8_carriedBy_30 : decode cX8_carriedBy 30 = .ok (.iload_n 3, 1) := by decide +kernel
theorem dX8_carriedBy_31 : decode cX8_carriedBy 31 = .ok (.ishl, 1) := by decide +kernel
theorem dX8_carriedBy_32 : decode cX8_carriedBy 32 = .ok (.goto 4, 3) := by decide +kernel
theorem dX8_carriedBy_35 : decode cX8_carriedBy 35 = .ok (.iconst 0, 1) := by decide +kernel
theorem dX8_carriedBy_36 : decode cX8_carriedBy 36 = .ok (.ior, 1) := by decide +kernel
theorem dX8_carriedBy_37 : decode cX8_carriedBy 37 = .ok (.istore_n 2, 1) := by decide +kernel
theorem dX8_carriedBy_38 : decode cX8_carriedBy 38 = .ok (.iinc 3 1, 3) := by decide +kernel
theorem dX8_carriedBy_41 : decode cX8_carriedBy 41 = .ok (.goto (-37), 3) := by decide +kernel
theorem dX8_carriedBy_44 : decode cX8_carriedBy 44 = .ok (.iload_n 2, 1) := by decide +kernel
theorem dX8_carriedBy_45 : decode cX8_carriedBy 45 = .ok (.ireturn, 1) := by decide +kernel
theorem dX8_thing_0 : decode cX8_thing 0 = .ok (.aload_n 0, 1) := by decide +kernel
theorem dX8_thing_1 : decode cX8_thing 1 = .ok (.iload_n 1, 1) := by decide +kernel
theorem dX8_thing_2 : decode cX8_thing 2 = .ok (.invokevirtual 145, 3) := by decide +kernel
theorem dX8_thing_5 : decode cX8_thing 5 = .ok (.ifCond .ne 9, 3) := by decide +kernel
theorem dX8_thing_8 : decode cX8_thing 8 = .ok (.aload_n 0, 1) := by decide +kernel
theorem dX8_thing_9 : decode cX8_thing 9 = .ok (.iconst (-1), 1) := by decide +kernel
theorem dX8_thing_10 : decode cX8_thing 10 = .ok (.invokevirtual 71, 3) := by decide +kernel
theorem dX8_thing_13 : decode cX8_thing 13 = .ok (.ireturn, 1) := by decide +kernel
theorem dX8_thing_14 : decode cX8_thing 14 = .ok (.iload_n 2, 1) := by decide +kernel
theorem dX8_thing_15 : decode cX8_thing 15 = .ok (.iconst 0, 1) := by decide +kernel
theorem dX8_thing_16 : decode cX8_thing 16 = .ok (.bipush 9, 2) := by decide +kernel
theorem dX8_thing_18 : decode cX8_thing 18 = .ok (.invokestatic 61, 3) := by decide +kernel
theorem dX8_thing_21 : decode cX8_thing 21 = .ok (.ifCond .eq 14, 3) := by decide +kernel
theorem dX8_thing_24 : decode cX8_thing 24 = .ok (.aload_n 0, 1) := by decide +kernel
theorem dX8_thing_25 : decode cX8_thing 25 = .ok (.getfield 31, 3) := by decide +kernel
theorem dX8_thing_28 : decode cX8_thing 28 = .ok (.iload_n 1, 1) := by decide +kernel
theorem dX8_thing_29 : decode cX8_thing 29 = .ok (.aaload, 1) := by decide +kernel
theorem dX8_thing_30 : decode cX8_thing 30 = .ok (.iload_n 2, 1) := by decide +kernel
theorem dX8_thing_31 : decode cX8_thing 31 = .ok (.iaload, 1) := by decide +kernel
theorem dX8_thing_32 : decode cX8_thing 32 = .ok (.goto 9, 3) := by decide +kernel
theorem dX8_thing_35 : decode cX8_thing 35 = .ok (.aload_n 0, 1) := by decide +kernel
theorem dX8_thing_36 : decode cX8_thing 36 = .ok (.bipush (-2), 2) := by decide +kernel
theorem dX8_thing_38 : decode cX8_thing 38 = .ok (.invokevirtual 71, 3) := by decide +kernel
theorem dX8_thing_41 : decode cX8_thing 41 = .ok (.ireturn, 1) := by decide +kernel
theorem dX8_law_0 : decode cX8_law 0 = .ok (.iload_n 1, 1) := by decide +kernel
theorem dX8_law_1 : decode cX8_law 1 = .ok (.iconst 0, 1) := by decide +kernel
theorem dX8_law_2 : decode cX8_law 2 = .ok (.iconst 4, 1) := by decide +kernel
theorem dX8_law_3 : decode cX8_law 3 = .ok (.invokestatic 61, 3) := by decide +kernel
theorem dX8_law_6 : decode cX8_law 6 = .ok (.ifCond .ne 10, 3) := by decide +kernel
theorem dX8_law_9 : decode cX8_law 9 = .ok (.aload_n 0, 1) := by decide +kernel
theorem dX8_law_10 : decode cX8_law 10 = .ok (.bipush (-2), 2) := by decide +kernel
theorem dX8_law_12 : decode cX8_law 12 = .ok (.invokevirtual 71, 3) := by decide +kernel
theorem dX8_law_15 : decode cX8_law 15 = .ok (.ireturn, 1) := by decide +kernel
theorem dX8_law_16 : decode cX8_law 16 = .ok (.aload_n 0, 1) := by decide +kernel
theorem dX8_law_17 : decode cX8_law 17 = .ok (.getfield 148, 3) := by decide +kernel
theorem dX8_law_20 : decode cX8_law 20 = .ok (.istore_n 2, 1) := by decide +kernel
theorem dX8_law_21 : decode cX8_law 21 = .ok (.aload_n 0, 1) := by decide +kernel
theorem dX8_law_22 : decode cX8_law 22 = .ok (.iload_n 1, 1) := by decide +kernel
theorem dX8_law_23 : decode cX8_law 23 = .ok (.putfield 148, 3) := by decide +kernel
theorem dX8_law_26 : decode cX8_law 26 = .ok (.iload_n 2, 1) := by decide +kernel
theorem dX8_law_27 : decode cX8_law 27 = .ok (.ireturn, 1) := by decide +kernel
theorem dX8_isOwner_0 : decode cX8_isOwner 0 = .ok (.aload_n 0, 1) := by decide +kernel
theorem dX8_isOwner_1 : decode cX8_isOwner 1 = .ok (.getfield 31, 3) := by decide +kernel
theorem dX8_isOwner_4 : decode cX8_isOwner 4 = .ok (.iload_n 2, 1) := by decide +kernel
theorem dX8_isOwner_5 : decode cX8_isOwner 5 = .ok (.aaload, 1) := by decide +kernel
theorem dX8_isOwner_6 : decode cX8_isOwner 6 = .ok (.iconst 0, 1) := by decide +kernel
theorem dX8_isOwner_7 : decode cX8_isOwner 7 = .ok (.iaload, 1) := by decide +kernel
theorem dX8_isOwner_8 : decode cX8_isOwner 8 = .ok (.iload_n 1, 1) := by decide +kernel
theorem dX8_isOwner_9 : decode cX8_isOwner 9 = .ok (.if_icmp .eq 15, 3) := by decide +kernel
theorem dX8_isOwner_12 : decode cX8_isOwner 12 = .ok (.aload_n 0, 1) := by decide +kernel
theorem dX8_isOwner_13 : decode cX8_isOwner 13 = .ok (.getfield 31, 3) := by decide +kernel
theorem dX8_isOwner_16 : decode cX8_isOwner 16 = .ok (.iload_n 2, 1) := by decide +kernel
theorem dX8_isOwner_17 : decode cX8_isOwner 17 = .ok (.aaload, 1) := by decide +kernel
theorem dX8_isOwner_18 : decode cX8_isOwner 18 = .ok (.iconst 1, 1) := by decide +kernel
theorem dX8_isOwner_19 : decode cX8_isOwner 19 = .ok (.iaload, 1) := by decide +kernel
theorem dX8_isOwner_20 : decode cX8_isOwner 20 = .ok (.iload_n 1, 1) := by decide +kernel
theorem dX8_isOwner_21 : decode cX8_isOwner 21 = .ok (.if_icmp .ne 7, 3) := by decide +kernel
theorem dX8_isOwner_24 : decode cX8_isOwner 24 = .ok (.iconst 1, 1) := by decide +kernel
theorem dX8_isOwner_25 : decode cX8_isOwner 25 = .ok (.goto 4, 3) := by decide +kernel
theorem dX8_isOwner_28 : decode cX8_isOwner 28 = .ok (.iconst 0, 1) := by decide +kernel
theorem dX8_isOwner_29 : decode cX8_isOwner 29 = .ok (.ireturn, 1) := by decide +kernel
theorem dX8_isKin_0 : decode cX8_isKin 0 = .ok (.aload_n 0, 1) := by decide +kernel
theorem dX8_isKin_1 : decode cX8_isKin 1 = .ok (.getfield 28, 3) := by decide +kernel
theorem dX8_isKin_4 : decode cX8_isKin 4 = .ok (.iload_n 1, 1) := by decide +kernel
theorem dX8_isKin_5 : decode cX8_isKin 5 = .ok (.aaload, 1) := by decide +kernel
theorem dX8_isKin_6 : decode cX8_isKin 6 = .ok (.iconst 3, 1) := by decide +kernel
theorem dX8_isKin_7 : decode cX8_isKin 7 = .ok (.iaload, 1) := by decide +kernel
theorem dX8_isKin_8 : decode cX8_isKin 8 = .ok (.istore_n 3, 1) := by decide +kernel
theorem dX8_isKin_9 : decode cX8_isKin 9 = .ok (.iload_n 3, 1) := by decide +kernel
theorem dX8_isKin_10 : decode cX8_isKin 10 = .ok (.ifCond .eq 45, 3) := by decide +kernel
theorem dX8_isKin_13 : decode cX8_isKin 13 = .ok (.aload_n 0, 1) := by decide +kernel
theorem dX8_isKin_14 : decode cX8_isKin 14 = .ok (.getfield 28, 3) := by decide +kernel
theorem dX8_isKin_17 : decode cX8_isKin 17 = .ok (.aload_n 0, 1) := by decide +kernel
theorem dX8_isKin_18 : decode cX8_isKin 18 = .ok (.getfield 31, 3) := by decide +kernel
theorem dX8_isKin_21 : decode cX8_isKin 21 = .ok (.iload_n 2, 1) := by decide +kernel
theorem dX8_isKin_22 : decode cX8_isKin 22 = .ok (.aaload, 1) := by decide +kernel
theorem dX8_isKin_23 : decode cX8_isKin 23 = .ok (.iconst 0, 1) := by decide +kernel
theorem dX8_isKin_24 : decode cX8_isKin 24 = .ok (.iaload, 1) := by decide +kernel
theorem dX8_isKin_25 : decode cX8_isKin 25 = .ok (.aaload, 1) := by decide +kernel
theorem dX8_isKin_26 : decode cX8_isKin 26 = .ok (.iconst 3, 1) := by decide +kernel
theorem dX8_isKin_27 : decode cX8_isKin 27 = .ok (.iaload, 1) := by decide +kernel
theorem dX8_isKin_28 : decode cX8_isKin 28 = .ok (.iload_n 3, 1) := by decide +kernel
theorem dX8_isKin_29 : decode cX8_isKin 29 = .ok (.if_icmp .eq 22, 3) := by decide +kernel
theorem dX8_isKin_32 : decode cX8_isKin 32 = .ok (.aload_n 0, 1) := by decide +kernel
theorem dX8_isKin_33 : decode cX8_isKin 33 = .ok (.getfield 28, 3) := by decide +kernel
theorem dX8_isKin_36 : decode cX8_isKin 36 = .ok (.aload_n 0, 1) := by decide +kernel
theorem dX8_isKin_37 : decode cX8_isKin 37 = .ok (.getfield 31, 3) := by decide +kernel
theorem dX8_isKin_40 : decode cX8_isKin 40 = .ok (.iload_n 2, 1) := by decide +kernel
theorem dX8_isKin_41 : decode cX8_isKin 41 = .ok (.aaload, 1) := by decide +kernel
theorem dX8_isKin_42 : decode cX8_isKin 42 = .ok (.iconst 1, 1) := by decide +kernel
theorem dX8_isKin_43 : decode cX8_isKin 43 = .ok (.iaload, 1) := by decide +kernel
theorem dX8_isKin_44 : decode cX8_isKin 44 = .ok (.aaload, 1) := by decide +kernel
theorem dX8_isKin_45 : decode cX8_isKin 45 = .ok (.iconst 3, 1) := by decide +kernel
theorem dX8_isKin_46 : decode cX8_isKin 46 = .ok (.iaload, 1) := by decide +kernel
theorem dX8_isKin_47 : decode cX8_isKin 47 = .ok (.iload_n 3, 1) := by decide +kernel
theorem dX8_isKin_48 : decode cX8_isKin 48 = .ok (.if_icmp .ne 7, 3) := by decide +kernel
theorem dX8_isKin_51 : decode cX8_isKin 51 = .ok (.iconst 1, 1) := by decide +kernel
theorem dX8_isKin_52 : decode cX8_isKin 52 = .ok (.goto 4, 3) := by decide +kernel
theorem dX8_isKin_55 : decode cX8_isKin 55 = .ok (.iconst 0, 1) := by decide +kernel
theorem dX8_isKin_56 : decode cX8_isKin 56 = .ok (.ireturn, 1) := by decide +kernel
theorem dX8_lets_0 : decode cX8_lets 0 = .ok (.iload_n 1, 1) := by decide +kernel
theorem dX8_lets_1 : decode cX8_lets 1 = .ok (.tableswitch 108 0 3 #[31, 46, 70, 106], 31) := by decide +kernel
theorem dX8_lets_32 : decode cX8_lets 32 = .ok (.aload_n 0, 1) := by decide +kernel
theorem dX8_lets_33 : decode cX8_lets 33 = .ok (.iload_n 2, 1) := by decide +kernel
theorem dX8_lets_34 : decode cX8_lets 34 = .ok (.iload_n 3, 1) := by decide +kernel
theorem dX8_lets_35 : decode cX8_lets 35 = .ok (.invokevirtual 151, 3) := by decide +kernel
theorem dX8_lets_38 : decode cX8_lets 38 = .ok (.ifCond .ne 7, 3) := by decide +kernel
theorem dX8_lets_41 : decode cX8_lets 41 = .ok (.iconst 1, 1) := by decide +kernel
theorem dX8_lets_42 : decode cX8_lets 42 = .ok (.goto 4, 3) := by decide +kernel
theorem dX8_lets_45 : decode cX8_lets 45 = .ok (.iconst 0, 1) := by decide +kernel
theorem dX8_lets_46 : decode cX8_lets 46 = .ok (.ireturn, 1) := by decide +kernel
theorem dX8_lets_47 : decode cX8_lets 47 = .ok (.aload_n 0, 1) := by decide +kernel
theorem dX8_lets_48 : decode cX8_lets 48 = .ok (.iload_n 2, 1) := by decide +kernel
theorem dX8_lets_49 : decode cX8_lets 49 = .ok (.iload_n 3, 1) := by decide +kernel
theorem dX8_lets_50 : decode cX8_lets 50 = .ok (.invokevirtual 151, 3) := by decide +kernel
theorem dX8_lets_53 : decode cX8_lets 53 = .ok (.ifCond .ne 16, 3) := by decide +kernel
theorem dX8_lets_56 : decode cX8_lets 56 = .ok (.aload_n 0, 1) := by decide +kernel
theorem dX8_lets_57 : decode cX8_lets 57 = .ok (.iload_n 2, 1) := by decide +kernel
theorem dX8_lets_58 : decode cX8_lets 58 = .ok (.iload_n 3, 1) := by decide +kernel
theorem dX8_lets_59 : decode cX8_lets 59 = .ok (.invokevirtual 155, 3) := by decide +kernel
theorem dX8_lets_62 : decode cX8_lets 62 = .ok (.ifCond .ne 7, 3) := by decide +kernel
theorem dX8_lets_65 : decode cX8_lets 65 = .ok (.iconst 1, 1) := by decide +kernel
theorem dX8_lets_66 : decode cX8_lets 66 = .ok (.goto 4, 3) := by decide +kernel
theorem dX8_lets_69 : decode cX8_lets 69 = .ok (.iconst 0, 1) := by decide +kernel
theorem dX8_lets_70 : decode cX8_lets 70 = .ok (.ireturn, 1) := by decide +kernel
theorem dX8_lets_71 : decode cX8_lets 71 = .ok (.aload_n 0, 1) := by decide +kernel
theorem dX8_lets_72 : decode cX8_lets 72 = .ok (.iload_n 2, 1) := by decide +kernel
theorem dX8_lets_73 : decode cX8_lets 73 = .ok (.iload_n 3, 1) := by decide +kernel
theorem dX8_lets_74 : decode cX8_lets 74 = .ok (.invokevirtual 151, 3) := by decide +kernel
theorem dX8_lets_77 : decode cX8_lets 77 = .ok (.ifCond .eq 24, 3) := by decide +kernel
theorem dX8_lets_80 : decode cX8_lets 80 = .ok (.iload 5, 2) := by decide +kernel
theorem dX8_lets_82 : decode cX8_lets 82 = .ok (.bipush (-9), 2) := by decide +kernel
theorem dX8_lets_84 : decode cX8_lets 84 = .ok (.if_icmp .eq 21, 3) := by decide +kernel
theorem dX8_lets_87 : decode cX8_lets 87 = .ok (.iload 4, 2) := by decide +kernel
theorem dX8_lets_89 : decode cX8_lets 89 = .ok (.iload 5, 2) := by decide +kernel
theorem dX8_lets_91 : decode cX8_lets 91 = .ok (.isub, 1) := by decide +kernel
theorem dX8_lets_92 : decode cX8_lets 92 = .ok (.iconst 0, 1) := by decide +kernel
theorem dX8_lets_93 : decode cX8_lets 93 = .ok (.bipush 59, 2) := by decide +kernel
theorem dX8_lets_95 : decode cX8_lets 95 = .ok (.invokestatic 61, 3) := by decide +kernel
theorem dX8_lets_98 : decode cX8_lets 98 = .ok (.ifCond .eq 7, 3) := by decide +kernel
theorem dX8_lets_101 : decode cX8_lets 101 = .ok (.iconst 1, 1) := by decide +kernel
theorem dX8_lets_102 : decode cX8_lets 102 = .ok (.goto 4, 3) := by decide +kernel
theorem dX8_lets_105 : decode cX8_lets 105 = .ok (.iconst 0, 1) := by decide +kernel
theorem dX8_lets_106 : decode cX8_lets 106 = .ok (.ireturn, 1) := by decide +kernel
theorem dX8_lets_107 : decode cX8_lets 107 = .ok (.iconst 1, 1) := by decide +kernel
theorem dX8_lets_108 : decode cX8_lets 108 = .ok (.ireturn, 1) := by decide +kernel
theorem dX8_lets_109 : decode cX8_lets 109 = .ok (.iload 4, 2) := by decide +kernel
theorem dX8_lets_111 : decode cX8_lets 111 = .ok (.sipush 720, 3) := by decide +kernel
theorem dX8_lets_114 : decode cX8_lets 114 = .ok (.if_icmp .ge 21, 3) := by decide +kernel
theorem dX8_lets_117 : decode cX8_lets 117 = .ok (.aload_n 0, 1) := by decide +kernel
theorem dX8_lets_118 : decode cX8_lets 118 = .ok (.iload_n 2, 1) := by decide +kernel
theorem dX8_lets_119 : decode cX8_lets 119 = .ok (.iload_n 3, 1) := by decide +kernel
theorem dX8_lets_120 : decode cX8_lets 120 = .ok (.invokevirtual 151, 3) := by decide +kernel
theorem dX8_lets_123 : decode cX8_lets 123 = .ok (.ifCond .ne 16, 3) := by decide +kernel
theorem dX8_lets_126 : decode cX8_lets 126 = .ok (.aload_n 0, 1) := by decide +kernel
theorem dX8_lets_127 : decode cX8_lets 127 = .ok (.iload_n 2, 1) := by decide +kernel
theorem dX8_lets_128 : decode cX8_lets 128 = .ok (.iload_n 3, 1) := by decide +kernel
theorem dX8_lets_129 : decode cX8_lets 129 = .ok (.invokevirtual 155, 3) := by decide +kernel
theorem dX8_lets_132 : decode cX8_lets 132 = .ok (.ifCond .ne 7, 3) := by decide +kernel
theorem dX8_lets_135 : decode cX8_lets 135 = .ok (.iconst 1, 1) := by decide +kernel
theorem dX8_lets_136 : decode cX8_lets 136 = .ok (.goto 4, 3) := by decide +kernel
theorem dX8_lets_139 : decode cX8_lets 139 = .ok (.iconst 0, 1) := by decide +kernel
theorem dX8_lets_140 : decode cX8_lets 140 = .ok (.ireturn, 1) := by decide +kernel
theorem dX8_isFree_0 : decode cX8_isFree 0 = .ok (.aload_n 0, 1) := by decide +kernel
theorem dX8_isFree_1 : decode cX8_isFree 1 = .ok (.getfield 31, 3) := by decide +kernel
theorem dX8_isFree_4 : decode cX8_isFree 4 = .ok (.iload_n 2, 1) := by decide +kernel
theorem dX8_isFree_5 : decode cX8_isFree 5 = .ok (.aaload, 1) := by decide +kernel
theorem dX8_isFree_6 : decode cX8_isFree 6 = .ok (.iconst 4, 1) := by decide +kernel
theorem dX8_isFree_7 : decode cX8_isFree 7 = .ok (.iaload, 1) := by decide +kernel
theorem dX8_isFree_8 : decode cX8_isFree 8 = .ok (.aload_n 0, 1) := by decide +kernel
theorem dX8_isFree_9 : decode cX8_isFree 9 = .ok (.getfield 28, 3) := by decide +kernel
theorem dX8_isFree_12 : decode cX8_isFree 12 = .ok (.iload_n 1, 1) := by decide +kernel
theorem dX8_isFree_13 : decode cX8_isFree 13 = .ok (.aaload, 1) := by decide +kernel
theorem dX8_isFree_14 : decode cX8_isFree 14 = .ok (.iconst 4, 1) := by decide +kernel
theorem dX8_isFree_15 : decode cX8_isFree 15 = .ok (.iaload, 1) := by decide +kernel
theorem dX8_isFree_16 : decode cX8_isFree 16 = .ok (.if_icmp .gt 7, 3) := by decide +kernel
theorem dX8_isFree_19 : decode cX8_isFree 19 = .ok (.iconst 1, 1) := by decide +kernel
theorem dX8_isFree_20 : decode cX8_isFree 20 = .ok (.goto 4, 3) := by decide +kernel
theorem dX8_isFree_23 : decode cX8_isFree 23 = .ok (.iconst 0, 1) := by decide +kernel
theorem dX8_isFree_24 : decode cX8_isFree 24 = .ok (.ireturn, 1) := by decide +kernel
theorem dX8_mayNow_0 : decode cX8_mayNow 0 = .ok (.aload_n 0, 1) := by decide +kernel
theorem dX8_mayNow_1 : decode cX8_mayNow 1 = .ok (.iload_n 1, 1) := by decide +kernel
theorem dX8_mayNow_2 : decode cX8_mayNow 2 = .ok (.iload_n 2, 1) := by decide +kernel
theorem dX8_mayNow_3 : decode cX8_mayNow 3 = .ok (.invokevirtual 158, 3) := by decide +kernel
theorem dX8_mayNow_6 : decode cX8_mayNow 6 = .ok (.ifCond .eq 30, 3) := by decide +kernel
theorem dX8_mayNow_9 : decode cX8_mayNow 9 = .ok (.aload_n 0, 1) := by decide +kernel
theorem dX8_mayNow_10 : decode cX8_mayNow 10 = .ok (.aload_n 0, 1) := by decide +kernel
theorem dX8_mayNow_11 : decode cX8_mayNow 11 = .ok (.getfield 148, 3) := by decide +kernel
theorem dX8_mayNow_14 : decode cX8_mayNow 14 = .ok (.iload_n 1, 1) := by decide +kernel
theorem dX8_mayNow_15 : decode cX8_mayNow 15 = .ok (.iload_n 2, 1) := by decide +kernel
theorem dX8_mayNow_16 : decode cX8_mayNow 16 = .ok (.iload_n 3, 1) := by decide +kernel
theorem dX8_mayNow_17 : decode cX8_mayNow 17 = .ok (.aload_n 0, 1) := by decide +kernel
theorem dX8_mayNow_18 : decode cX8_mayNow 18 = .ok (.getfield 31, 3) := by decide +kernel
theorem dX8_mayNow_21 : decode cX8_mayNow 21 = .ok (.iload_n 2, 1) := by decide +kernel
theorem dX8_mayNow_22 : decode cX8_mayNow 22 = .ok (.aaload, 1) := by decide +kernel
theorem dX8_mayNow_23 : decode cX8_mayNow 23 = .ok (.bipush 9, 2) := by decide +kernel
theorem dX8_mayNow_25 : decode cX8_mayNow 25 = .ok (.iaload, 1) := by decide +kernel
theorem dX8_mayNow_26 : decode cX8_mayNow 26 = .ok (.invokevirtual 161, 3) := by decide +kernel
theorem dX8_mayNow_29 : decode cX8_mayNow 29 = .ok (.ifCond .eq 7, 3) := by decide +kernel
theorem dX8_mayNow_32 : decode cX8_mayNow 32 = .ok (.iconst 1, 1) := by decide +kernel
theorem dX8_mayNow_33 : decode cX8_mayNow 33 = .ok (.goto 4, 3) := by decide +kernel
theorem dX8_mayNow_36 : decode cX8_mayNow 36 = .ok (.iconst 0, 1) := by decide +kernel
theorem dX8_mayNow_37 : decode cX8_mayNow 37 = .ok (.ireturn, 1) := by decide +kernel
theorem dX8_may_0 : decode cX8_may 0 = .ok (.aload_n 0, 1) := by decide +kernel
theorem dX8_may_1 : decode cX8_may 1 = .ok (.iload_n 1, 1) := by decide +kernel
theorem dX8_may_2 : decode cX8_may 2 = .ok (.invokevirtual 108, 3) := by decide +kernel
theorem dX8_may_5 : decode cX8_may 5 = .ok (.ifCond .eq 11, 3) := by decide +kernel
theorem dX8_may_8 : decode cX8_may 8 = .ok (.aload_n 0, 1) := by decide +kernel
theorem dX8_may_9 : decode cX8_may 9 = .ok (.iload_n 2, 1) := by decide +kernel
theorem dX8_may_10 : decode cX8_may 10 = .ok (.invokevirtual 145, 3) := by decide +kernel
theorem dX8_may_13 : decode cX8_may 13 = .ok (.ifCond .ne 9, 3) := by decide +kernel
theorem dX8_may_16 : decode cX8_may 16 = .ok (.aload_n 0, 1) := by decide +kernel
theorem dX8_may_17 : decode cX8_may 17 = .ok (.iconst (-1), 1) := by decide +kernel
theorem dX8_may_18 : decode cX8_may 18 = .ok (.invokevirtual 71, 3) := by decide +kernel
theorem dX8_may_21 : decode cX8_may 21 = .ok (.ireturn, 1) := by decide +kernel
theorem dX8_may_22 : decode cX8_may 22 = .ok (.iload_n 3, 1) := by decide +kernel
theorem dX8_may_23 : decode cX8_may 23 = .ok (.ifCond .ge 10, 3) := by decide +kernel
theorem dX8_may_26 : decode cX8_may 26 = .ok (.aload_n 0, 1) := by decide +kernel
theorem dX8_may_27 : decode cX8_may 27 = .ok (.bipush (-4), 2) := by decide +kernel
theorem dX8_may_29 : decode cX8_may 29 = .ok (.invokevirtual 71, 3) := by decide +kernel
theorem dX8_may_32 : decode cX8_may 32 = .ok (.ireturn, 1) := by decide +kernel
theorem dX8_may_33 : decode cX8_may 33 = .ok (.iload_n 3, 1) := by decide +kernel
theorem dX8_may_34 : decode cX8_may 34 = .ok (.sipush 9999, 3) := by decide +kernel
theorem dX8_may_37 : decode cX8_may 37 = .ok (.if_icmp .le 10, 3) := by decide +kernel
theorem dX8_may_40 : decode cX8_may 40 = .ok (.aload_n 0, 1) := by decide +kernel
theorem dX8_may_41 : decode cX8_may 41 = .ok (.bipush (-6), 2) := by decide +kernel
theorem dX8_may_43 : decode cX8_may 43 = .ok (.invokevirtual 71, 3) := by decide +kernel
theorem dX8_may_46 : decode cX8_may 46 = .ok (.ireturn, 1) := by decide +kernel
theorem dX8_may_47 : decode cX8_may 47 = .ok (.aload_n 0, 1) := by decide +kernel
theorem dX8_may_48 : decode cX8_may 48 = .ok (.iload_n 1, 1) := by decide +kernel
theorem dX8_may_49 : decode cX8_may 49 = .ok (.iload_n 2, 1) := by decide +kernel
theorem dX8_may_50 : decode cX8_may 50 = .ok (.iload_n 3, 1) := by decide +kernel
theorem dX8_may_51 : decode cX8_may 51 = .ok (.invokevirtual 165, 3) := by decide +kernel
theorem dX8_may_54 : decode cX8_may 54 = .ok (.ifCond .eq 7, 3) := by decide +kernel
theorem dX8_may_57 : decode cX8_may 57 = .ok (.iconst 1, 1) := by decide +kernel
theorem dX8_may_58 : decode cX8_may 58 = .ok (.goto 4, 3) := by decide +kernel
theorem dX8_may_61 : decode cX8_may 61 = .ok (.iconst 0, 1) := by decide +kernel
theorem dX8_may_62 : decode cX8_may 62 = .ok (.ireturn, 1) := by decide +kernel
theorem dX8_sizeOn_0 : decode cX8_sizeOn 0 = .ok (.iconst 0, 1) := by decide +kernel
theorem dX8_sizeOn_1 : decode cX8_sizeOn 1 = .ok (.istore_n 2, 1) := by decide +kernel
theorem dX8_sizeOn_2 : decode cX8_sizeOn 2 = .ok (.iconst 0, 1) := by decide +kernel
theorem dX8_sizeOn_3 : decode cX8_sizeOn 3 = .ok (.istore_n 3, 1) := by decide +kernel
theorem dX8_sizeOn_4 : decode cX8_sizeOn 4 = .ok (.iload_n 3, 1) := by decide +kernel
theorem dX8_sizeOn_5 : decode cX8_sizeOn 5 = .ok (.aload_n 0, 1) := by decide +kernel
theorem dX8_sizeOn_6 : decode cX8_sizeOn 6 = .ok (.getfield 68, 3) := by decide +kernel
theorem dX8_sizeOn_9 : decode cX8_sizeOn 9 = .ok (.if_icmp .ge 40, 3) := by decide +kernel
theorem dX8_sizeOn_12 : decode cX8_sizeOn 12 = .ok (.iload_n 2, 1) := by decide +kernel
theorem dX8_sizeOn_13 : decode cX8_sizeOn 13 = .ok (.aload_n 0, 1) := by decide +kernel
theorem dX8_sizeOn_14 : decode cX8_sizeOn 14 = .ok (.getfield 31, 3) := by decide +kernel
theorem dX8_sizeOn_17 : decode cX8_sizeOn 17 = .ok (.iload_n 3, 1) := by decide +kernel
theorem dX8_sizeOn_18 : decode cX8_sizeOn 18 = .ok (.aaload, 1) := by decide +kernel
theorem dX8_sizeOn_19 : decode cX8_sizeOn 19 = .ok (.bipush 7, 2) := by decide +kernel
theorem dX8_sizeOn_21 : decode cX8_sizeOn 21 = .ok (.iaload, 1) := by decide +kernel
theorem dX8_sizeOn_22 : decode cX8_sizeOn 22 = .ok (.bipush 10, 2) := by decide +kernel
theorem dX8_sizeOn_24 : decode cX8_sizeOn 24 = .ok (.iload_n 1, 1) := by decide +kernel
theorem dX8_sizeOn_25 : decode cX8_sizeOn 25 = .ok (.iadd, 1) := by decide +kernel
theorem dX8_sizeOn_26 : decode cX8_sizeOn 26 = .ok (.if_icmp .ne 14, 3) := by decide +kernel
theorem dX8_sizeOn_29 : decode cX8_sizeOn 29 = .ok (.aload_n 0, 1) := by decide +kernel
theorem dX8_sizeOn_30 : decode cX8_sizeOn 30 = .ok (.getfield 31, 3) := by decide +kernel
theorem dX8_sizeOn_33 : decode cX8_sizeOn 33 = .ok (.iload_n 3, 1) := by decide +kernel
theorem dX8_sizeOn_34 : decode cX8_sizeOn 34 = .ok (.aaload, 1) := by decide +kernel
theorem dX8_sizeOn_35 : decode cX8_sizeOn 35 = .ok (.iconst 4, 1) := by decide +kernel
theorem dX8_sizeOn_36 : decode cX8_sizeOn 36 = .ok (.iaload, 1) := by decide +kernel
theorem dX8_sizeOn_37 : decode cX8_sizeOn 37 = .ok (.goto 4, 3) := by decide +kernel
theorem dX8_sizeOn_40 : decode cX8_sizeOn 40 = .ok (.iconst 0, 1) := by decide +kernel
theorem dX8_sizeOn_41 : decode cX8_sizeOn 41 = .ok (.iadd, 1) := by decide +kernel
theorem dX8_sizeOn_42 : decode cX8_sizeOn 42 = .ok (.istore_n 2, 1) := by decide +kernel
theorem dX8_sizeOn_43 : decode cX8_sizeOn 43 = .ok (.iinc 3 1, 3) := by decide +kernel
theorem dX8_sizeOn_46 : decode cX8_sizeOn 46 = .ok (.goto (-42), 3) := by decide +kernel
theorem dX8_sizeOn_49 : decode cX8_sizeOn 49 = .ok (.iload_n 2, 1) := by decide +kernel
theorem dX8_sizeOn_50 : decode cX8_sizeOn 50 = .ok (.ireturn, 1) := by decide +kernel
theorem dX8_hasRoom_0 : decode cX8_hasRoom 0 = .ok (.aload_n 0, 1) := by decide +kernel
theorem dX8_hasRoom_1 : decode cX8_hasRoom 1 = .ok (.iload_n 1, 1) := by decide +kernel
theorem dX8_hasRoom_2 : decode cX8_hasRoom 2 = .ok (.invokevirtual 168, 3) := by decide +kernel
theorem dX8_hasRoom_5 : decode cX8_hasRoom 5 = .ok (.aload_n 0, 1) := by decide +kernel
theorem dX8_hasRoom_6 : decode cX8_hasRoom 6 = .ok (.getfield 31, 3) := by decide +kernel
theorem dX8_hasRoom_9 : decode cX8_hasRoom 9 = .ok (.iload_n 2, 1) := by decide +kernel
theorem dX8_hasRoom_10 : decode cX8_hasRoom 10 = .ok (.aaload, 1) := by decide +kernel
theorem dX8_hasRoom_11 : decode cX8_hasRoom 11 = .ok (.iconst 4, 1) := by decide +kernel
theorem dX8_hasRoom_12 : decode cX8_hasRoom 12 = .ok (.iaload, 1) := by decide +kernel
theorem dX8_hasRoom_13 : decode cX8_hasRoom 13 = .ok (.iadd, 1) := by decide +kernel
theorem dX8_hasRoom_14 : decode cX8_hasRoom 14 = .ok (.aload_n 0, 1) := by decide +kernel
theorem dX8_hasRoom_15 : decode cX8_hasRoom 15 = .ok (.getfield 28, 3) := by decide +kernel
theorem dX8_hasRoom_18 : decode cX8_hasRoom 18 = .ok (.iload_n 1, 1) := by decide +kernel
theorem dX8_hasRoom_19 : decode cX8_hasRoom 19 = .ok (.aaload, 1) := by decide +kernel
theorem dX8_hasRoom_20 : decode cX8_hasRoom 20 = .ok (.iconst 4, 1) := by decide +kernel
theorem dX8_hasRoom_21 : decode cX8_hasRoom 21 = .ok (.iaload, 1) := by decide +kernel
theorem dX8_hasRoom_22 : decode cX8_hasRoom 22 = .ok (.if_icmp .gt 7, 3) := by decide +kernel
theorem dX8_hasRoom_25 : decode cX8_hasRoom 25 = .ok (.iconst 1, 1) := by decide +kernel
theorem dX8_hasRoom_26 : decode cX8_hasRoom 26 = .ok (.goto 4, 3) := by decide +kernel
theorem dX8_hasRoom_29 : decode cX8_hasRoom 29 = .ok (.iconst 0, 1) := by decide +kernel
theorem dX8_hasRoom_30 : decode cX8_hasRoom 30 = .ok (.ireturn, 1) := by decide +kernel
theorem dX8_later_0 : decode cX8_later 0 = .ok (.iload_n 0, 1) := by decide +kernel
theorem dX8_later_1 : decode cX8_later 1 = .ok (.iload_n 1, 1) := by decide +kernel
theorem dX8_later_2 : decode cX8_later 2 = .ok (.if_icmp .le 7, 3) := by decide +kernel
theorem dX8_later_5 : decode cX8_later 5 = .ok (.iload_n 0, 1) := by decide +kernel
theorem dX8_later_6 : decode cX8_later 6 = .ok (.goto 4, 3) := by decide +kernel
theorem dX8_later_9 : decode cX8_later 9 = .ok (.iload_n 1, 1) := by decide +kernel
theorem dX8_later_10 : decode cX8_later 10 = .ok (.ireturn, 1) := by decide +kernel
theorem dX8_take_0 : decode cX8_take 0 = .ok (.aload_n 0, 1) := by decide +kernel
theorem dX8_take_1 : decode cX8_take 1 = .ok (.iload_n 1, 1) := by decide +kernel
theorem dX8_take_2 : decode cX8_take 2 = .ok (.invokevirtual 108, 3) := by decide +kernel
theorem dX8_take_5 : decode cX8_take 5 = .ok (.ifCond .eq 11, 3) := by decide +kernel
theorem dX8_take_8 : decode cX8_take 8 = .ok (.aload_n 0, 1) := by decide +kernel
theorem dX8_take_9 : decode cX8_take 9 = .ok (.iload_n 2, 1) := by decide +kernel
theorem dX8_take_10 : decode cX8_take 10 = .ok (.invokevirtual 145, 3) := by decide +kernel
theorem dX8_take_13 : decode cX8_take 13 = .ok (.ifCond .ne 9, 3) := by decide +kernel
theorem dX8_take_16 : decode cX8_take 16 = .ok (.aload_n 0, 1) := by decide +kernel
theorem dX8_take_17 : decode cX8_take 17 = .ok (.iconst (-1), 1) := by decide +kernel
theorem dX8_take_18 : decode cX8_take 18 = .ok (.invokevirtual 71, 3) := by decide +kernel
theorem dX8_take_21 : decode cX8_take 21 = .ok (.ireturn, 1) := by decide +kernel
theorem dX8_take_22 : decode cX8_take 22 = .ok (.aload_n 0, 1) := by decide +kernel
theorem dX8_take_23 : decode cX8_take 23 = .ok (.getfield 28, 3) := by decide +kernel
theorem dX8_take_26 : decode cX8_take 26 = .ok (.iload_n 1, 1) := by decide +kernel
theorem dX8_take_27 : decode cX8_take 27 = .ok (.aaload, 1) := by decide +kernel
theorem dX8_take_28 : decode cX8_take 28 = .ok (.bipush 6, 2) := by decide +kernel
theorem dX8_take_30 : decode cX8_take 30 = .ok (.iaload, 1) := by decide +kernel
theorem dX8_take_31 : decode cX8_take 31 = .ok (.aload_n 0, 1) := by decide +kernel
theorem dX8_take_32 : decode cX8_take 32 = .ok (.getfield 31, 3) := by decide +kernel
theorem dX8_take_35 : decode cX8_take 35 = .ok (.iload_n 2, 1) := by decide +kernel
theorem dX8_take_36 : decode cX8_take 36 = .ok (.aaload, 1) := by decide +kernel
theorem dX8_take_37 : decode cX8_take 37 = .ok (.bipush 8, 2) := by decide +kernel
theorem dX8_take_39 : decode cX8_take 39 = .ok (.iaload, 1) := by decide +kernel
theorem dX8_take_40 : decode cX8_take 40 = .ok (.invokestatic 171, 3) := by decide +kernel
theorem dX8_take_43 : decode cX8_take 43 = .ok (.istore_n 3, 1) := by decide +kernel
theorem dX8_take_44 : decode cX8_take 44 = .ok (.aload_n 0, 1) := by decide +kernel
theorem dX8_take_45 : decode cX8_take 45 = .ok (.getfield 31, 3) := by decide +kernel
theorem dX8_take_48 : decode cX8_take 48 = .ok (.iload_n 2, 1) := by decide +kernel
theorem dX8_take_49 : decode cX8_take 49 = .ok (.aaload, 1) := by decide +kernel
theorem dX8_take_50 : decode cX8_take 50 = .ok (.bipush 7, 2) := by decide +kernel
theorem dX8_take_52 : decode cX8_take 52 = .ok (.iaload, 1) := by decide +kernel
theorem dX8_take_53 : decode cX8_take 53 = .ok (.aload_n 0, 1) := by decide +kernel
theorem dX8_take_54 : decode cX8_take 54 = .ok (.getfield 28, 3) := by decide +kernel
theorem dX8_take_57 : decode cX8_take 57 = .ok (.iload_n 1, 1) := by decide +kernel
theorem dX8_take_58 : decode cX8_take 58 = .ok (.aaload, 1) := by decide +kernel
theorem dX8_take_59 : decode cX8_take 59 = .ok (.iconst 5, 1) := by decide +kernel
theorem dX8_take_60 : decode cX8_take 60 = .ok (.iaload, 1) := by decide +kernel
theorem dX8_take_61 : decode cX8_take 61 = .ok (.if_icmp .ne 22, 3) := by decide +kernel
theorem dX8_take_64 : decode cX8_take 64 = .ok (.aload_n 0, 1) := by decide +kernel
theorem dX8_take_65 : decode cX8_take 65 = .ok (.iload_n 1, 1) := by decide +kernel
theorem dX8_take_66 : decode cX8_take 66 = .ok (.iload_n 2, 1) := by decide +kernel
theorem dX8_take_67 : decode cX8_take 67 = .ok (.iload_n 3, 1) := by decide +kernel
theorem dX8_take_68 : decode cX8_take 68 = .ok (.invokevirtual 165, 3) := by decide +kernel
theorem dX8_take_71 : decode cX8_take 71 = .ok (.ifCond .eq 12, 3) := by decide +kernel
theorem dX8_take_74 : decode cX8_take 74 = .ok (.aload_n 0, 1) := by decide +kernel
theorem dX8_take_75 : decode cX8_take 75 = .ok (.iload_n 1, 1) := by decide +kernel
theorem dX8_take_76 : decode cX8_take 76 = .ok (.iload_n 2, 1) := by decide +kernel
theorem dX8_take_77 : decode cX8_take 77 = .ok (.invokevirtual 175, 3) := by decide +kernel
theorem dX8_take_80 : decode cX8_take 80 = .ok (.ifCond .ne 10, 3) := by decide +kernel
theorem dX8_take_83 : decode cX8_take 83 = .ok (.aload_n 0, 1) := by decide +kernel
theorem dX8_take_84 : decode cX8_take 84 = .ok (.bipush (-3), 2) := by decide +kernel
theorem dX8_take_86 : decode cX8_take 86 = .ok (.invokevirtual 71, 3) := by decide +kernel
theorem dX8_take_89 : decode cX8_take 89 = .ok (.ireturn, 1) := by decide +kernel
theorem dX8_take_90 : decode cX8_take 90 = .ok (.aload_n 0, 1) := by decide +kernel
theorem dX8_take_91 : decode cX8_take 91 = .ok (.getfield 28, 3) := by decide +kernel
theorem dX8_take_94 : decode cX8_take 94 = .ok (.iload_n 1, 1) := by decide +kernel
theorem dX8_take_95 : decode cX8_take 95 = .ok (.aaload, 1) := by decide +kernel
theorem dX8_take_96 : decode cX8_take 96 = .ok (.bipush 6, 2) := by decide +kernel
theorem dX8_take_98 : decode cX8_take 98 = .ok (.iload_n 3, 1) := by decide +kernel
theorem dX8_take_99 : decode cX8_take 99 = .ok (.iastore, 1) := by decide +kernel
theorem dX8_take_100 : decode cX8_take 100 = .ok (.aload_n 0, 1) := by decide +kernel
theorem dX8_take_101 : decode cX8_take 101 = .ok (.getfield 31, 3) := by decide +kernel
theorem dX8_take_104 : decode cX8_take 104 = .ok (.iload_n 2, 1) := by decide +kernel
theorem dX8_take_105 : decode cX8_take 105 = .ok (.aaload, 1) := by decide +kernel
theorem dX8_take_106 : decode cX8_take 106 = .ok (.bipush 7, 2) := by decide +kernel
theorem dX8_take_108 : decode cX8_take 108 = .ok (.bipush 10, 2) := by decide +kernel
theorem dX8_take_110 : decode cX8_take 110 = .ok (.iload_n 1, 1) := by decide +kernel
theorem dX8_take_111 : decode cX8_take 111 = .ok (.iadd, 1) := by decide +kernel
theorem dX8_take_112 : decode cX8_take 112 = .ok (.iastore, 1) := by decide +kernel
theorem dX8_take_113 : decode cX8_take 113 = .ok (.aload_n 0, 1) := by decide +kernel
theorem dX8_take_114 : decode cX8_take 114 = .ok (.getfield 31, 3) := by decide +kernel
theorem dX8_take_117 : decode cX8_take 117 = .ok (.iload_n 2, 1) := by decide +kernel
theorem dX8_take_118 : decode cX8_take 118 = .ok (.aaload, 1) := by decide +kernel
theorem dX8_take_119 : decode cX8_take 119 = .ok (.bipush 8, 2) := by decide +kernel
theorem dX8_take_121 : decode cX8_take 121 = .ok (.iconst 0, 1) := by decide +kernel
theorem dX8_take_122 : decode cX8_take 122 = .ok (.iastore, 1) := by decide +kernel
theorem dX8_take_123 : decode cX8_take 123 = .ok (.iload_n 3, 1) := by decide +kernel
theorem dX8_take_124 : decode cX8_take 124 = .ok (.ireturn, 1) := by decide +kernel
theorem dX8_go_0 : decode cX8_go 0 = .ok (.aload_n 0, 1) := by decide +kernel
theorem dX8_go_1 : decode cX8_go 1 = .ok (.iload_n 1, 1) := by decide +kernel
theorem dX8_go_2 : decode cX8_go 2 = .ok (.invokevirtual 108, 3) := by decide +kernel
theorem dX8_go_5 : decode cX8_go 5 = .ok (.ifCond .eq 11, 3) := by decide +kernel
theorem dX8_go_8 : decode cX8_go 8 = .ok (.aload_n 0, 1) := by decide +kernel
theorem dX8_go_9 : decode cX8_go 9 = .ok (.iload_n 2, 1) := by decide +kernel
theorem dX8_go_10 : decode cX8_go 10 = .ok (.invokevirtual 105, 3) := by decide +kernel
theorem dX8_go_13 : decode cX8_go 13 = .ok (.ifCond .ne 9, 3) := by decide +kernel
theorem dX8_go_16 : decode cX8_go 16 = .ok (.aload_n 0, 1) := by decide +kernel
theorem dX8_go_17 : decode cX8_go 17 = .ok (.iconst (-1), 1) := by decide +kernel
theorem dX8_go_18 : decode cX8_go 18 = .ok (.invokevirtual 71, 3) := by decide +kernel
theorem dX8_go_21 : decode cX8_go 21 = .ok (.ireturn, 1) := by decide +kernel
theorem dX8_go_22 : decode cX8_go 22 = .ok (.aload_n 0, 1) := by decide +kernel
theorem dX8_go_23 : decode cX8_go 23 = .ok (.invokevirtual 139, 3) := by decide +kernel
theorem dX8_go_26 : decode cX8_go 26 = .ok (.aload_n 0, 1) := by decide +kernel
theorem dX8_go_27 : decode cX8_go 27 = .ok (.getfield 37, 3) := by decide +kernel
theorem dX8_go_30 : decode cX8_go 30 = .ok (.aload_n 0, 1) := by decide +kernel
theorem dX8_go_31 : decode cX8_go 31 = .ok (.getfield 28, 3) := by decide +kernel
theorem dX8_go_34 : decode cX8_go 34 = .ok (.iload_n 1, 1) := by decide +kernel
theorem dX8_go_35 : decode cX8_go 35 = .ok (.aaload, 1) := by decide +kernel
theorem dX8_go_36 : decode cX8_go 36 = .ok (.iconst 5, 1) := by decide +kernel
theorem dX8_go_37 : decode cX8_go 37 = .ok (.iaload, 1) := by decide +kernel
theorem dX8_go_38 : decode cX8_go 38 = .ok (.aaload, 1) := by decide +kernel
theorem dX8_go_39 : decode cX8_go 39 = .ok (.iload_n 2, 1) := by decide +kernel
theorem dX8_go_40 : decode cX8_go 40 = .ok (.iaload, 1) := by decide +kernel
theorem dX8_go_41 : decode cX8_go 41 = .ok (.istore_n 3, 1) := by decide +kernel
theorem dX8_go_42 : decode cX8_go 42 = .ok (.iload_n 3, 1) := by decide +kernel
theorem dX8_go_43 : decode cX8_go 43 = .ok (.ldc 138, 2) := by decide +kernel
theorem dX8_go_45 : decode cX8_go 45 = .ok (.if_icmp .ge 7, 3) := by decide +kernel
theorem dX8_go_48 : decode cX8_go 48 = .ok (.iconst 1, 1) := by decide +kernel
theorem dX8_go_49 : decode cX8_go 49 = .ok (.goto 4, 3) := by decide +kernel
theorem dX8_go_52 : decode cX8_go 52 = .ok (.iconst 0, 1) := by decide +kernel
theorem dX8_go_53 : decode cX8_go 53 = .ok (.istore 4, 2) := by decide +kernel
theorem dX8_go_55 : decode cX8_go 55 = .ok (.iconst 0, 1) := by decide +kernel
theorem dX8_go_56 : decode cX8_go 56 = .ok (.istore 5, 2) := by decide +kernel
theorem dX8_go_58 : decode cX8_go 58 = .ok (.iload 5, 2) := by decide +kernel
theorem dX8_go_60 : decode cX8_go 60 = .ok (.aload_n 0, 1) := by decide +kernel
theorem dX8_go_61 : decode cX8_go 61 = .ok (.getfield 68, 3) := by decide +kernel
theorem dX8_go_64 : decode cX8_go 64 = .ok (.if_icmp .ge 55, 3) := by decide +kernel
theorem dX8_go_67 : decode cX8_go 67 = .ok (.iload 4, 2) := by decide +kernel
theorem dX8_go_69 : decode cX8_go 69 = .ok (.aload_n 0, 1) := by decide +kernel
theorem dX8_go_70 : decode cX8_go 70 = .ok (.getfield 31, 3) := by decide +kernel
theorem dX8_go_73 : decode cX8_go 73 = .ok (.iload 5, 2) := by decide +kernel
theorem dX8_go_75 : decode cX8_go 75 = .ok (.aaload, 1) := by decide +kernel
theorem dX8_go_76 : decode cX8_go 76 = .ok (.bipush 7, 2) := by decide +kernel
theorem dX8_go_78 : decode cX8_go 78 = .ok (.iaload, 1) := by decide +kernel
theorem dX8_go_79 : decode cX8_go 79 = .ok (.bipush 10, 2) := by decide +kernel
theorem dX8_go_81 : decode cX8_go 81 = .ok (.iload_n 1, 1) := by decide +kernel
theorem dX8_go_82 : decode cX8_go 82 = .ok (.iadd, 1) := by decide +kernel
theorem dX8_go_83 : decode cX8_go 83 = .ok (.if_icmp .ne 22, 3) := by decide +kernel
theorem dX8_go_86 : decode cX8_go 86 = .ok (.aload_n 0, 1) := by decide +kernel
theorem dX8_go_87 : decode cX8_go 87 = .ok (.iload_n 1, 1) := by decide +kernel
theorem dX8_go_88 : decode cX8_go 88 = .ok (.iload 5, 2) := by decide +kernel
theorem dX8_go_90 : decode cX8_go 90 = .ok (.aload_n 0, 1) := by decide +kernel
theorem dX8_go_91 : decode cX8_go 91 = .ok (.getfield 28, 3) := by decide +kernel
theorem dX8_go_94 : decode cX8_go 94 = .ok (.iload_n 1, 1) := by decide +kernel
theorem dX8_go_95 : decode cX8_go 95 = .ok (.aaload, 1) := by decide +kernel
theorem dX8_go_96 : decode cX8_go 96 = .ok (.bipush 6, 2) := by decide +kernel
theorem dX8_go_98 : decode cX8_go 98 = .ok (.iaload, 1) := by decide +kernel
theorem dX8_go_99 : decode cX8_go 99 = .ok (.invokevirtual 165, 3) := by decide +kernel
theorem dX8_go_102 : decode cX8_go 102 = .ok (.ifCond .eq 7, 3) := by decide +kernel
theorem dX8_go_105 : decode cX8_go 105 = .ok (.iconst 1, 1) := by decide +kernel
theorem dX8_go_106 : decode cX8_go 106 = .ok (.goto 4, 3) := by decide +kernel
theorem dX8_go_109 : decode cX8_go 109 = .ok (.iconst 0, 1) := by decide +kernel
theorem dX8_go_110 : decode cX8_go 110 = .ok (.iand, 1) := by decide +kernel
theorem dX8_go_111 : decode cX8_go 111 = .ok (.istore 4, 2) := by decide +kernel
theorem dX8_go_113 : decode cX8_go 113 = .ok (.iinc 5 1, 3) := by decide +kernel
theorem dX8_go_116 : decode cX8_go 116 = .ok (.goto (-58), 3) := by decide +kernel
theorem dX8_go_119 : decode cX8_go 119 = .ok (.iload 4, 2) := by decide +kernel
theorem dX8_go_121 : decode cX8_go 121 = .ok (.ifCond .ne 10, 3) := by decide +kernel
theorem dX8_go_124 : decode cX8_go 124 = .ok (.aload_n 0, 1) := by decide +kernel
theorem dX8_go_125 : decode cX8_go 125 = .ok (.bipush (-3), 2) := by decide +kernel
theorem dX8_go_127 : decode cX8_go 127 = .ok (.invokevirtual 71, 3) := by decide +kernel
theorem dX8_go_130 : decode cX8_go 130 = .ok (.ireturn, 1) := by decide +kernel
theorem dX8_go_131 : decode cX8_go 131 = .ok (.aload_n 0, 1) := by decide +kernel
theorem dX8_go_132 : decode cX8_go 132 = .ok (.getfield 28, 3) := by decide +kernel
theorem dX8_go_135 : decode cX8_go 135 = .ok (.iload_n 1, 1) := by decide +kernel
theorem dX8_go_136 : decode cX8_go 136 = .ok (.aaload, 1) := by decide +kernel
theorem dX8_go_137 : decode cX8_go 137 = .ok (.iconst 5, 1) := by decide +kernel
theorem dX8_go_138 : decode cX8_go 138 = .ok (.iload_n 2, 1) := by decide +kernel
theorem dX8_go_139 : decode cX8_go 139 = .ok (.iastore, 1) := by decide +kernel
theorem dX8_go_140 : decode cX8_go 140 = .ok (.aload_n 0, 1) := by decide +kernel
theorem dX8_go_141 : decode cX8_go 141 = .ok (.getfield 28, 3) := by decide +kernel
theorem dX8_go_144 : decode cX8_go 144 = .ok (.iload_n 1, 1) := by decide +kernel
theorem dX8_go_145 : decode cX8_go 145 = .ok (.aaload, 1) := by decide +kernel
theorem dX8_go_146 : decode cX8_go 146 = .ok (.bipush 6, 2) := by decide +kernel
theorem dX8_go_148 : decode cX8_go 148 = .ok (.dup2, 1) := by decide +kernel
theorem dX8_go_149 : decode cX8_go 149 = .ok (.iaload, 1) := by decide +kernel
theorem dX8_go_150 : decode cX8_go 150 = .ok (.iload_n 3, 1) := by decide +kernel
theorem dX8_go_151 : decode cX8_go 151 = .ok (.iadd, 1) := by decide +kernel
theorem dX8_go_152 : decode cX8_go 152 = .ok (.iastore, 1) := by decide +kernel
theorem dX8_go_153 : decode cX8_go 153 = .ok (.aload_n 0, 1) := by decide +kernel
theorem dX8_go_154 : decode cX8_go 154 = .ok (.getfield 28, 3) := by decide +kernel
theorem dX8_go_157 : decode cX8_go 157 = .ok (.iload_n 1, 1) := by decide +kernel
theorem dX8_go_158 : decode cX8_go 158 = .ok (.aaload, 1) := by decide +kernel
theorem dX8_go_159 : decode cX8_go 159 = .ok (.bipush 6, 2) := by decide +kernel
theorem dX8_go_161 : decode cX8_go 161 = .ok (.iaload, 1) := by decide +kernel
theorem dX8_go_162 : decode cX8_go 162 = .ok (.ireturn, 1) := by decide +kernel
theorem dX8_lay_0 : decode cX8_lay 0 = .ok (.aload_n 0, 1) := by decide +kernel
theorem dX8_lay_1 : decode cX8_lay 1 = .ok (.iload_n 1, 1) := by decide +kernel
theorem dX8_lay_2 : decode cX8_lay 2 = .ok (.invokevirtual 108, 3) := by decide +kernel
theorem dX8_lay_5 : decode cX8_lay 5 = .ok (.ifCond .eq 11, 3) := by decide +kernel
theorem dX8_lay_8 : decode cX8_lay 8 = .ok (.aload_n 0, 1) := by decide +kernel
theorem dX8_lay_9 : decode cX8_lay 9 = .ok (.iload_n 2, 1) := by decide +kernel
theorem dX8_lay_10 : decode cX8_lay 10 = .ok (.invokevirtual 145, 3) := by decide +kernel
theorem dX8_lay_13 : decode cX8_lay 13 = .ok (.ifCond .ne 9, 3) := by decide +kernel
theorem dX8_lay_16 : decode cX8_lay 16 = .ok (.aload_n 0, 1) := by decide +kernel
theorem dX8_lay_17 : decode cX8_lay 17 = .ok (.iconst (-1), 1) := by decide +kernel
theorem dX8_lay_18 : decode cX8_lay 18 = .ok (.invokevirtual 71, 3) := by decide +kernel
theorem dX8_lay_21 : decode cX8_lay 21 = .ok (.ireturn, 1) := by decide +kernel
theorem dX8_lay_22 : decode cX8_lay 22 = .ok (.aload_n 0, 1) := by decide +kernel
theorem dX8_lay_23 : decode cX8_lay 23 = .ok (.getfield 31, 3) := by decide +kernel
theorem dX8_lay_26 : decode cX8_lay 26 = .ok (.iload_n 2, 1) := by decide +kernel
theorem dX8_lay_27 : decode cX8_lay 27 = .ok (.aaload, 1) := by decide +kernel
theorem dX8_lay_28 : decode cX8_lay 28 = .ok (.bipush 7, 2) := by decide +kernel
theorem dX8_lay_30 : decode cX8_lay 30 = .ok (.iaload, 1) := by decide +kernel
theorem dX8_lay_31 : decode cX8_lay 31 = .ok (.bipush 10, 2) := by decide +kernel
theorem dX8_lay_33 : decode cX8_lay 33 = .ok (.iload_n 1, 1) := by decide +kernel
theorem dX8_lay_34 : decode cX8_lay 34 = .ok (.iadd, 1) := by decide +kernel
theorem dX8_lay_35 : decode cX8_lay 35 = .ok (.if_icmp .eq 10, 3) := by decide +kernel
theorem dX8_lay_38 : decode cX8_lay 38 = .ok (.aload_n 0, 1) := by decide +kernel
theorem dX8_lay_39 : decode cX8_lay 39 = .ok (.bipush (-3), 2) := by decide +kernel
theorem dX8_lay_41 : decode cX8_lay 41 = .ok (.invokevirtual 71, 3) := by decide +kernel
theorem dX8_lay_44 : decode cX8_lay 44 = .ok (.ireturn, 1) := by decide +kernel
theorem dX8_lay_45 : decode cX8_lay 45 = .ok (.aload_n 0, 1) := by decide +kernel
theorem dX8_lay_46 : decode cX8_lay 46 = .ok (.getfield 31, 3) := by decide +kernel
theorem dX8_lay_49 : decode cX8_lay 49 = .ok (.iload_n 2, 1) := by decide +kernel
theorem dX8_lay_50 : decode cX8_lay 50 = .ok (.aaload, 1) := by decide +kernel
theorem dX8_lay_51 : decode cX8_lay 51 = .ok (.bipush 7, 2) := by decide +kernel
theorem dX8_lay_53 : decode cX8_lay 53 = .ok (.aload_n 0, 1) := by decide +kernel
theorem dX8_lay_54 : decode cX8_lay 54 = .ok (.getfield 28, 3) := by decide +kernel
theorem dX8_lay_57 : decode cX8_lay 57 = .ok (.iload_n 1, 1) := by decide +kernel
theorem dX8_lay_58 : decode cX8_lay 58 = .ok (.aaload, 1) := by decide +kernel
theorem dX8_lay_59 : decode cX8_lay 59 = .ok (.iconst 5, 1) := by decide +kernel
theorem dX8_lay_60 : decode cX8_lay 60 = .ok (.iaload, 1) := by decide +kernel
theorem dX8_lay_61 : decode cX8_lay 61 = .ok (.iastore, 1) := by decide +kernel
theorem dX8_lay_62 : decode cX8_lay 62 = .ok (.aload_n 0, 1) := by decide +kernel
theorem dX8_lay_63 : decode cX8_lay 63 = .ok (.getfield 31, 3) := by decide +kernel
theorem dX8_lay_66 : decode cX8_lay 66 = .ok (.iload_n 2, 1) := by decide +kernel
theorem dX8_lay_67 : decode cX8_lay 67 = .ok (.aaload, 1) := by decide +kernel
theorem dX8_lay_68 : decode cX8_lay 68 = .ok (.bipush 8, 2) := by decide +kernel
theorem dX8_lay_70 : decode cX8_lay 70 = .ok (.aload_n 0, 1) := by decide +kernel
theorem dX8_lay_71 : decode cX8_lay 71 = .ok (.getfield 28, 3) := by decide +kernel
theorem dX8_lay_74 : decode cX8_lay 74 = .ok (.iload_n 1, 1) := by decide +kernel
theorem dX8_lay_75 : decode cX8_lay 75 = .ok (.aaload, 1) := by decide +kernel
theorem dX8_lay_76 : decode cX8_lay 76 = .ok (.bipush 6, 2) := by decide +kernel
theorem dX8_lay_78 : decode cX8_lay 78 = .ok (.iaload, 1) := by decide +kernel
theorem dX8_lay_79 : decode cX8_lay 79 = .ok (.iastore, 1) := by decide +kernel
theorem dX8_lay_80 : decode cX8_lay 80 = .ok (.aload_n 0, 1) := by decide +kernel
theorem dX8_lay_81 : decode cX8_lay 81 = .ok (.getfield 28, 3) := by decide +kernel
theorem dX8_lay_84 : decode cX8_lay 84 = .ok (.iload_n 1, 1) := by decide +kernel
theorem dX8_lay_85 : decode cX8_lay 85 = .ok (.aaload, 1) := by decide +kernel
theorem dX8_lay_86 : decode cX8_lay 86 = .ok (.bipush 6, 2) := by decide +kernel
theorem dX8_lay_88 : decode cX8_lay 88 = .ok (.iaload, 1) := by decide +kernel
theorem dX8_lay_89 : decode cX8_lay 89 = .ok (.ireturn, 1) := by decide +kernel
theorem dX8_hand_0 : decode cX8_hand 0 = .ok (.aload_n 0, 1) := by decide +kernel
theorem dX8_hand_1 : decode cX8_hand 1 = .ok (.iload_n 1, 1) := by decide +kernel
theorem dX8_hand_2 : decode cX8_hand 2 = .ok (.invokevirtual 108, 3) := by decide +kernel
theorem dX8_hand_5 : decode cX8_hand 5 = .ok (.ifCond .eq 24, 3) := by decide +kernel
theorem dX8_hand_8 : decode cX8_hand 8 = .ok (.aload_n 0, 1) := by decide +kernel
theorem dX8_hand_9 : decode cX8_hand 9 = .ok (.iload_n 2, 1) := by decide +kernel
theorem dX8_hand_10 : decode cX8_hand 10 = .ok (.invokevirtual 108, 3) := by decide +kernel
theorem dX8_hand_13 : decode cX8_hand 13 = .ok (.ifCond .eq 16, 3) := by decide +kernel
theorem dX8_hand_16 : decode cX8_hand 16 = .ok (.iload_n 1, 1) := by decide +kernel
theorem dX8_hand_17 : decode cX8_hand 17 = .ok (.iload_n 2, 1) := by decide +kernel
theorem dX8_hand_18 : decode cX8_hand 18 = .ok (.if_icmp .eq 11, 3) := by decide +kernel
theorem dX8_hand_21 : decode cX8_hand 21 = .ok (.aload_n 0, 1) := by decide +kernel
theorem dX8_hand_22 : decode cX8_hand 22 = .ok (.iload_n 3, 1) := by decide +kernel
theorem dX8_hand_23 : decode cX8_hand 23 = .ok (.invokevirtual 145, 3) := by decide +kernel
theorem dX8_hand_26 : decode cX8_hand 26 = .ok (.ifCond .ne 9, 3) := by decide +kernel
theorem dX8_hand_29 : decode cX8_hand 29 = .ok (.aload_n 0, 1) := by decide +kernel
theorem dX8_hand_30 : decode cX8_hand 30 = .ok (.iconst (-1), 1) := by decide +kernel
theorem dX8_hand_31 : decode cX8_hand 31 = .ok (.invokevirtual 71, 3) := by decide +kernel
theorem dX8_hand_34 : decode cX8_hand 34 = .ok (.ireturn, 1) := by decide +kernel
theorem dX8_hand_35 : decode cX8_hand 35 = .ok (.aload_n 0, 1) := by decide +kernel
theorem dX8_hand_36 : decode cX8_hand 36 = .ok (.getfield 28, 3) := by decide +kernel
theorem dX8_hand_39 : decode cX8_hand 39 = .ok (.iload_n 1, 1) := by decide +kernel
theorem dX8_hand_40 : decode cX8_hand 40 = .ok (.aaload, 1) := by decide +kernel
theorem dX8_hand_41 : decode cX8_hand 41 = .ok (.bipush 6, 2) := by decide +kernel
theorem dX8_hand_43 : decode cX8_hand 43 = .ok (.iaload, 1) := by decide +kernel
theorem dX8_hand_44 : decode cX8_hand 44 = .ok (.aload_n 0, 1) := by decide +kernel
theorem dX8_hand_45 : decode cX8_hand 45 = .ok (.getfield 28, 3) := by decide +kernel
theorem dX8_hand_48 : decode cX8_hand 48 = .ok (.iload_n 2, 1) := by decide +kernel
theorem dX8_hand_49 : decode cX8_hand 49 = .ok (.aaload, 1) := by decide +kernel
theorem dX8_hand_50 : decode cX8_hand 50 = .ok (.bipush 6, 2) := by decide +kernel
theorem dX8_hand_52 : decode cX8_hand 52 = .ok (.iaload, 1) := by decide +kernel
theorem dX8_hand_53 : decode cX8_hand 53 = .ok (.invokestatic 171, 3) := by decide +kernel
theorem dX8_hand_56 : decode cX8_hand 56 = .ok (.istore 4, 2) := by decide +kernel
theorem dX8_hand_58 : decode cX8_hand 58 = .ok (.aload_n 0, 1) := by decide +kernel
theorem dX8_hand_59 : decode cX8_hand 59 = .ok (.getfield 31, 3) := by decide +kernel
theorem dX8_hand_62 : decode cX8_hand 62 = .ok (.iload_n 3, 1) := by decide +kernel
theorem dX8_hand_63 : decode cX8_hand 63 = .ok (.aaload, 1) := by decide +kernel
theorem dX8_hand_64 : decode cX8_hand 64 = .ok (.bipush 7, 2) := by decide +kernel
theorem dX8_hand_66 : decode cX8_hand 66 = .ok (.iaload, 1) := by decide +kernel
theorem dX8_hand_67 : decode cX8_hand 67 = .ok (.bipush 10, 2) := by decide +kernel
theorem dX8_hand_69 : decode cX8_hand 69 = .ok (.iload_n 1, 1) := by decide +kernel
theorem dX8_hand_70 : decode cX8_hand 70 = .ok (.iadd, 1) := by decide +kernel
theorem dX8_hand_71 : decode cX8_hand 71 = .ok (.if_icmp .ne 42, 3) := by decide +kernel
theorem dX8_hand_74 : decode cX8_hand 74 = .ok (.aload_n 0, 1) := by decide +kernel
theorem dX8_hand_75 : decode cX8_hand 75 = .ok (.getfield 28, 3) := by decide +kernel
theorem dX8_hand_78 : decode cX8_hand 78 = .ok (.iload_n 1, 1) := by decide +kernel
theorem dX8_hand_79 : decode cX8_hand 79 = .ok (.aaload, 1) := by decide +kernel
theorem dX8_hand_80 : decode cX8_hand 80 = .ok (.iconst 5, 1) := by decide +kernel
theorem dX8_hand_81 : decode cX8_hand 81 = .ok (.iaload, 1) := by decide +kernel
theorem dX8_hand_82 : decode cX8_hand 82 = .ok (.aload_n 0, 1) := by decide +kernel
theorem dX8_hand_83 : decode cX8_hand 83 = .ok (.getfield 28, 3) := by decide +kernel
theorem dX8_hand_86 : decode cX8_hand 86 = .ok (.iload_n 2, 1) := by decide +kernel
theorem dX8_hand_87 : decode cX8_hand 87 = .ok (.aaload, 1) := by decide +kernel
theorem dX8_hand_88 : decode cX8_hand 88 = .ok (.iconst 5, 1) := by decide +kernel
theorem dX8_hand_89 : decode cX8_hand 89 = .ok (.iaload, 1) := by decide +kernel
theorem dX8_hand_90 : decode cX8_hand 90 = .ok (.if_icmp .ne 23, 3) := by decide +kernel
theorem dX8_hand_93 : decode cX8_hand 93 = .ok (.aload_n 0, 1) := by decide +kernel
theorem dX8_hand_94 : decode cX8_hand 94 = .ok (.iload_n 2, 1) := by decide +kernel
theorem dX8_hand_95 : decode cX8_hand 95 = .ok (.iload_n 3, 1) := by decide +kernel
theorem dX8_hand_96 : decode cX8_hand 96 = .ok (.iload 4, 2) := by decide +kernel
theorem dX8_hand_98 : decode cX8_hand 98 = .ok (.invokevirtual 165, 3) := by decide +kernel
theorem dX8_hand_101 : decode cX8_hand 101 = .ok (.ifCond .eq 12, 3) := by decide +kernel
theorem dX8_hand_104 : decode cX8_hand 104 = .ok (.aload_n 0, 1) := by decide +kernel
theorem dX8_hand_105 : decode cX8_hand 105 = .ok (.iload_n 2, 1) := by decide +kernel
theorem dX8_hand_106 : decode cX8_hand 106 = .ok (.iload_n 3, 1) := by decide +kernel
theorem dX8_hand_107 : decode cX8_hand 107 = .ok (.invokevirtual 175, 3) := by decide +kernel
theorem dX8_hand_110 : decode cX8_hand 110 = .ok (.ifCond .ne 10, 3) := by decide +kernel
theorem dX8_hand_113 : decode cX8_hand 113 = .ok (.aload_n 0, 1) := by decide +kernel
theorem dX8_hand_114 : decode cX8_hand 114 = .ok (.bipush (-3), 2) := by decide +kernel
theorem dX8_hand_116 : decode cX8_hand 116 = .ok (.invokevirtual 71, 3) := by decide +kernel
theorem dX8_hand_119 : decode cX8_hand 119 = .ok (.ireturn, 1) := by decide +kernel
theorem dX8_hand_120 : decode cX8_hand 120 = .ok (.aload_n 0, 1) := by decide +kernel
theorem dX8_hand_121 : decode cX8_hand 121 = .ok (.getfield 28, 3) := by decide +kernel
theorem dX8_hand_124 : decode cX8_hand 124 = .ok (.iload_n 1, 1) := by decide +kernel
theorem dX8_hand_125 : decode cX8_hand 125 = .ok (.aaload, 1) := by decide +kernel
theorem dX8_hand_126 : decode cX8_hand 126 = .ok (.bipush 6, 2) := by decide +kernel
theorem dX8_hand_128 : decode cX8_hand 128 = .ok (.iload 4, 2) := by decide +kernel
theorem dX8_hand_130 : decode cX8_hand 130 = .ok (.iastore, 1) := by decide +kernel
theorem dX8_hand_131 : decode cX8_hand 131 = .ok (.aload_n 0, 1) := by decide +kernel
theorem dX8_hand_132 : decode cX8_hand 132 = .ok (.getfield 28, 3) := by decide +kernel
theorem dX8_hand_135 : decode cX8_hand 135 = .ok (.iload_n 2, 1) := by decide +kernel
theorem dX8_hand_136 : decode cX8_hand 136 = .ok (.aaload, 1) := by decide +kernel
theorem dX8_hand_137 : decode cX8_hand 137 = .ok (.bipush 6, 2) := by decide +kernel
theorem dX8_hand_139 : decode cX8_hand 139 = .ok (.iload 4, 2) := by decide +kernel
theorem dX8_hand_141 : decode cX8_hand 141 = .ok (.iastore, 1) := by decide +kernel
theorem dX8_hand_142 : decode cX8_hand 142 = .ok (.aload_n 0, 1) := by decide +kernel
theorem dX8_hand_143 : decode cX8_hand 143 = .ok (.getfield 31, 3) := by decide +kernel
theorem dX8_hand_146 : decode cX8_hand 146 = .ok (.iload_n 3, 1) := by decide +kernel
theorem dX8_hand_147 : decode cX8_hand 147 = .ok (.aaload, 1) := by decide +kernel
theorem dX8_hand_148 : decode cX8_hand 148 = .ok (.bipush 7, 2) := by decide +kernel
theorem dX8_hand_150 : decode cX8_hand 150 = .ok (.bipush 10, 2) := by decide +kernel
theorem dX8_hand_152 : decode cX8_hand 152 = .ok (.iload_n 2, 1) := by decide +kernel
theorem dX8_hand_153 : decode cX8_hand 153 = .ok (.iadd, 1) := by decide +kernel
theorem dX8_hand_154 : decode cX8_hand 154 = .ok (.iastore, 1) := by decide +kernel
theorem dX8_hand_155 : decode cX8_hand 155 = .ok (.iload 4, 2) := by decide +kernel
theorem dX8_hand_157 : decode cX8_hand 157 = .ok (.ireturn, 1) := by decide +kernel
theorem dX8_tarry_0 : decode cX8_tarry 0 = .ok (.aload_n 0, 1) := by decide +kernel
theorem dX8_tarry_1 : decode cX8_tarry 1 = .ok (.iload_n 1, 1) := by decide +kernel
theorem dX8_tarry_2 : decode cX8_tarry 2 = .ok (.invokevirtual 108, 3) := by decide +kernel
theorem dX8_tarry_5 : decode cX8_tarry 5 = .ok (.ifCond .ne 9, 3) := by decide +kernel
theorem dX8_tarry_8 : decode cX8_tarry 8 = .ok (.aload_n 0, 1) := by decide +kernel
theorem dX8_tarry_9 : decode cX8_tarry 9 = .ok (.iconst (-1), 1) := by decide +kernel
theorem dX8_tarry_10 : decode cX8_tarry 10 = .ok (.invokevirtual 71, 3) := by decide +kernel
theorem dX8_tarry_13 : decode cX8_tarry 13 = .ok (.ireturn, 1) := by decide +kernel
theorem dX8_tarry_14 : decode cX8_tarry 14 = .ok (.iload_n 2, 1) := by decide +kernel
theorem dX8_tarry_15 : decode cX8_tarry 15 = .ok (.iconst 1, 1) := by decide +kernel
theorem dX8_tarry_16 : decode cX8_tarry 16 = .ok (.if_icmp .ge 10, 3) := by decide +kernel
theorem dX8_tarry_19 : decode cX8_tarry 19 = .ok (.aload_n 0, 1) := by decide +kernel
theorem dX8_tarry_20 : decode cX8_tarry 20 = .ok (.bipush (-4), 2) := by decide +kernel
theorem dX8_tarry_22 : decode cX8_tarry 22 = .ok (.invokevirtual 71, 3) := by decide +kernel
theorem dX8_tarry_25 : decode cX8_tarry 25 = .ok (.ireturn, 1) := by decide +kernel
theorem dX8_tarry_26 : decode cX8_tarry 26 = .ok (.iload_n 2, 1) := by decide +kernel
theorem dX8_tarry_27 : decode cX8_tarry 27 = .ok (.sipush 600, 3) := by decide +kernel
theorem dX8_tarry_30 : decode cX8_tarry 30 = .ok (.if_icmp .le 10, 3) := by decide +kernel
theorem dX8_tarry_33 : decode cX8_tarry 33 = .ok (.aload_n 0, 1) := by decide +kernel
theorem dX8_tarry_34 : decode cX8_tarry 34 = .ok (.bipush (-6), 2) := by decide +kernel
theorem dX8_tarry_36 : decode cX8_tarry 36 = .ok (.invokevirtual 71, 3) := by decide +kernel
theorem dX8_tarry_39 : decode cX8_tarry 39 = .ok (.ireturn, 1) := by decide +kernel
theorem dX8_tarry_40 : decode cX8_tarry 40 = .ok (.aload_n 0, 1) := by decide +kernel
theorem dX8_tarry_41 : decode cX8_tarry 41 = .ok (.getfield 28, 3) := by decide +kernel
theorem dX8_tarry_44 : decode cX8_tarry 44 = .ok (.iload_n 1, 1) := by decide +kernel
theorem dX8_tarry_45 : decode cX8_tarry 45 = .ok (.aaload, 1) := by decide +kernel
theorem dX8_tarry_46 : decode cX8_tarry 46 = .ok (.bipush 6, 2) := by decide +kernel
theorem dX8_tarry_48 : decode cX8_tarry 48 = .ok (.dup2, 1) := by decide +kernel
theorem dX8_tarry_49 : decode cX8_tarry 49 = .ok (.iaload, 1) := by decide +kernel
theorem dX8_tarry_50 : decode cX8_tarry 50 = .ok (.iload_n 2, 1) := by decide +kernel
theorem dX8_tarry_51 : decode cX8_tarry 51 = .ok (.iadd, 1) := by decide +kernel
theorem dX8_tarry_52 : decode cX8_tarry 52 = .ok (.iastore, 1) := by decide +kernel
theorem dX8_tarry_53 : decode cX8_tarry 53 = .ok (.aload_n 0, 1) := by decide +kernel
theorem dX8_tarry_54 : decode cX8_tarry 54 = .ok (.getfield 28, 3) := by decide +kernel
theorem dX8_tarry_57 : decode cX8_tarry 57 = .ok (.iload_n 1, 1) := by decide +kernel
theorem dX8_tarry_58 : decode cX8_tarry 58 = .ok (.aaload, 1) := by decide +kernel
theorem dX8_tarry_59 : decode cX8_tarry 59 = .ok (.bipush 6, 2) := by decide +kernel
