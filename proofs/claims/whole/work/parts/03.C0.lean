theorem dX0_init_0 : decode cX0_init 0 = .ok (.aload_n 0, 1) := by decide +kernel
theorem dX0_init_1 : decode cX0_init 1 = .ok (.invokespecial 3, 3) := by decide +kernel
theorem dX0_init_4 : decode cX0_init 4 = .ok (.aload_n 0, 1) := by decide +kernel
theorem dX0_init_5 : decode cX0_init 5 = .ok (.bipush 36, 2) := by decide +kernel
theorem dX0_init_7 : decode cX0_init 7 = .ok (.newarray .int, 2) := by decide +kernel
theorem dX0_init_9 : decode cX0_init 9 = .ok (.putfield 9, 3) := by decide +kernel
theorem dX0_init_12 : decode cX0_init 12 = .ok (.aload_n 0, 1) := by decide +kernel
theorem dX0_init_13 : decode cX0_init 13 = .ok (.sipush 448, 3) := by decide +kernel
theorem dX0_init_16 : decode cX0_init 16 = .ok (.newarray .int, 2) := by decide +kernel
theorem dX0_init_18 : decode cX0_init 18 = .ok (.putfield 15, 3) := by decide +kernel
theorem dX0_init_21 : decode cX0_init 21 = .ok (.return_, 1) := by decide +kernel
theorem dX0_bestSum_0 : decode cX0_bestSum 0 = .ok (.aload_n 0, 1) := by decide +kernel
theorem dX0_bestSum_1 : decode cX0_bestSum 1 = .ok (.aload_n 1, 1) := by decide +kernel
theorem dX0_bestSum_2 : decode cX0_bestSum 2 = .ok (.iload_n 2, 1) := by decide +kernel
theorem dX0_bestSum_3 : decode cX0_bestSum 3 = .ok (.invokevirtual 18, 3) := by decide +kernel
theorem dX0_bestSum_6 : decode cX0_bestSum 6 = .ok (.aload_n 0, 1) := by decide +kernel
theorem dX0_bestSum_7 : decode cX0_bestSum 7 = .ok (.getfield 15, 3) := by decide +kernel
theorem dX0_bestSum_10 : decode cX0_bestSum 10 = .ok (.iconst 0, 1) := by decide +kernel
theorem dX0_bestSum_11 : decode cX0_bestSum 11 = .ok (.invokestatic 22, 3) := by decide +kernel
theorem dX0_bestSum_14 : decode cX0_bestSum 14 = .ok (.aload_n 1, 1) := by decide +kernel
theorem dX0_bestSum_15 : decode cX0_bestSum 15 = .ok (.getfield 28, 3) := by decide +kernel
theorem dX0_bestSum_18 : decode cX0_bestSum 18 = .ok (.iconst 1, 1) := by decide +kernel
theorem dX0_bestSum_19 : decode cX0_bestSum 19 = .ok (.isub, 1) := by decide +kernel
theorem dX0_bestSum_20 : decode cX0_bestSum 20 = .ok (.istore_n 3, 1) := by decide +kernel
theorem dX0_bestSum_21 : decode cX0_bestSum 21 = .ok (.iload_n 3, 1) := by decide +kernel
theorem dX0_bestSum_22 : decode cX0_bestSum 22 = .ok (.ifCond .lt 45, 3) := by decide +kernel
theorem dX0_bestSum_25 : decode cX0_bestSum 25 = .ok (.iconst 0, 1) := by decide +kernel
theorem dX0_bestSum_26 : decode cX0_bestSum 26 = .ok (.istore 4, 2) := by decide +kernel
theorem dX0_bestSum_28 : decode cX0_bestSum 28 = .ok (.iload 4, 2) := by decide +kernel
theorem dX0_bestSum_30 : decode cX0_bestSum 30 = .ok (.bipush 64, 2) := by decide +kernel
theorem dX0_bestSum_32 : decode cX0_bestSum 32 = .ok (.if_icmp .ge 29, 3) := by decide +kernel
theorem dX0_bestSum_35 : decode cX0_bestSum 35 = .ok (.aload_n 0, 1) := by decide +kernel
theorem dX0_bestSum_36 : decode cX0_bestSum 36 = .ok (.getfield 15, 3) := by decide +kernel
theorem dX0_bestSum_39 : decode cX0_bestSum 39 = .ok (.iload_n 3, 1) := by decide +kernel
theorem dX0_bestSum_40 : decode cX0_bestSum 40 = .ok (.bipush 64, 2) := by decide +kernel
theorem dX0_bestSum_42 : decode cX0_bestSum 42 = .ok (.imul, 1) := by decide +kernel
theorem dX0_bestSum_43 : decode cX0_bestSum 43 = .ok (.iload 4, 2) := by decide +kernel
theorem dX0_bestSum_45 : decode cX0_bestSum 45 = .ok (.iadd, 1) := by decide +kernel
theorem dX0_bestSum_46 : decode cX0_bestSum 46 = .ok (.aload_n 0, 1) := by decide +kernel
theorem dX0_bestSum_47 : decode cX0_bestSum 47 = .ok (.aload_n 1, 1) := by decide +kernel
theorem dX0_bestSum_48 : decode cX0_bestSum 48 = .ok (.iload_n 3, 1) := by decide +kernel
theorem dX0_bestSum_49 : decode cX0_bestSum 49 = .ok (.iload 4, 2) := by decide +kernel
theorem dX0_bestSum_51 : decode cX0_bestSum 51 = .ok (.invokevirtual 34, 3) := by decide +kernel
theorem dX0_bestSum_54 : decode cX0_bestSum 54 = .ok (.iastore, 1) := by decide +kernel
theorem dX0_bestSum_55 : decode cX0_bestSum 55 = .ok (.iinc 4 1, 3) := by decide +kernel
theorem dX0_bestSum_58 : decode cX0_bestSum 58 = .ok (.goto (-30), 3) := by decide +kernel
theorem dX0_bestSum_61 : decode cX0_bestSum 61 = .ok (.iinc 3 (-1), 3) := by decide +kernel
theorem dX0_bestSum_64 : decode cX0_bestSum 64 = .ok (.goto (-43), 3) := by decide +kernel
theorem dX0_bestSum_67 : decode cX0_bestSum 67 = .ok (.aload_n 0, 1) := by decide +kernel
theorem dX0_bestSum_68 : decode cX0_bestSum 68 = .ok (.getfield 15, 3) := by decide +kernel
theorem dX0_bestSum_71 : decode cX0_bestSum 71 = .ok (.iconst 0, 1) := by decide +kernel
theorem dX0_bestSum_72 : decode cX0_bestSum 72 = .ok (.iaload, 1) := by decide +kernel
theorem dX0_bestSum_73 : decode cX0_bestSum 73 = .ok (.ireturn, 1) := by decide +kernel
theorem dX0_weigh_0 : decode cX0_weigh 0 = .ok (.aload_n 0, 1) := by decide +kernel
theorem dX0_weigh_1 : decode cX0_weigh 1 = .ok (.getfield 9, 3) := by decide +kernel
theorem dX0_weigh_4 : decode cX0_weigh 4 = .ok (.ldc 38, 2) := by decide +kernel
theorem dX0_weigh_6 : decode cX0_weigh 6 = .ok (.invokestatic 22, 3) := by decide +kernel
theorem dX0_weigh_9 : decode cX0_weigh 9 = .ok (.iconst 0, 1) := by decide +kernel
theorem dX0_weigh_10 : decode cX0_weigh 10 = .ok (.istore_n 3, 1) := by decide +kernel
theorem dX0_weigh_11 : decode cX0_weigh 11 = .ok (.iload_n 3, 1) := by decide +kernel
theorem dX0_weigh_12 : decode cX0_weigh 12 = .ok (.aload_n 1, 1) := by decide +kernel
theorem dX0_weigh_13 : decode cX0_weigh 13 = .ok (.getfield 28, 3) := by decide +kernel
theorem dX0_weigh_16 : decode cX0_weigh 16 = .ok (.if_icmp .ge 74, 3) := by decide +kernel
theorem dX0_weigh_19 : decode cX0_weigh 19 = .ok (.iconst 0, 1) := by decide +kernel
theorem dX0_weigh_20 : decode cX0_weigh 20 = .ok (.istore 4, 2) := by decide +kernel
theorem dX0_weigh_22 : decode cX0_weigh 22 = .ok (.iload 4, 2) := by decide +kernel
theorem dX0_weigh_24 : decode cX0_weigh 24 = .ok (.aload_n 1, 1) := by decide +kernel
theorem dX0_weigh_25 : decode cX0_weigh 25 = .ok (.getfield 39, 3) := by decide +kernel
theorem dX0_weigh_28 : decode cX0_weigh 28 = .ok (.if_icmp .ge 56, 3) := by decide +kernel
theorem dX0_weigh_31 : decode cX0_weigh 31 = .ok (.iload_n 3, 1) := by decide +kernel
theorem dX0_weigh_32 : decode cX0_weigh 32 = .ok (.iload_n 2, 1) := by decide +kernel
theorem dX0_weigh_33 : decode cX0_weigh 33 = .ok (.if_icmp .eq 45, 3) := by decide +kernel
theorem dX0_weigh_36 : decode cX0_weigh 36 = .ok (.aload_n 1, 1) := by decide +kernel
theorem dX0_weigh_37 : decode cX0_weigh 37 = .ok (.iload_n 3, 1) := by decide +kernel
theorem dX0_weigh_38 : decode cX0_weigh 38 = .ok (.iload 4, 2) := by decide +kernel
theorem dX0_weigh_40 : decode cX0_weigh 40 = .ok (.invokevirtual 42, 3) := by decide +kernel
theorem dX0_weigh_43 : decode cX0_weigh 43 = .ok (.bipush (-9), 2) := by decide +kernel
theorem dX0_weigh_45 : decode cX0_weigh 45 = .ok (.if_icmp .eq 33, 3) := by decide +kernel
theorem dX0_weigh_48 : decode cX0_weigh 48 = .ok (.aload_n 0, 1) := by decide +kernel
theorem dX0_weigh_49 : decode cX0_weigh 49 = .ok (.getfield 9, 3) := by decide +kernel
theorem dX0_weigh_52 : decode cX0_weigh 52 = .ok (.iload_n 3, 1) := by decide +kernel
theorem dX0_weigh_53 : decode cX0_weigh 53 = .ok (.bipush 6, 2) := by decide +kernel
theorem dX0_weigh_55 : decode cX0_weigh 55 = .ok (.imul, 1) := by decide +kernel
theorem dX0_weigh_56 : decode cX0_weigh 56 = .ok (.iload 4, 2) := by decide +kernel
theorem dX0_weigh_58 : decode cX0_weigh 58 = .ok (.iadd, 1) := by decide +kernel
theorem dX0_weigh_59 : decode cX0_weigh 59 = .ok (.aload_n 1, 1) := by decide +kernel
theorem dX0_weigh_60 : decode cX0_weigh 60 = .ok (.getfield 46, 3) := by decide +kernel
theorem dX0_weigh_63 : decode cX0_weigh 63 = .ok (.iload 4, 2) := by decide +kernel
theorem dX0_weigh_65 : decode cX0_weigh 65 = .ok (.aaload, 1) := by decide +kernel
theorem dX0_weigh_66 : decode cX0_weigh 66 = .ok (.getfield 50, 3) := by decide +kernel
theorem dX0_weigh_69 : decode cX0_weigh 69 = .ok (.aload_n 1, 1) := by decide +kernel
theorem dX0_weigh_70 : decode cX0_weigh 70 = .ok (.iload_n 3, 1) := by decide +kernel
theorem dX0_weigh_71 : decode cX0_weigh 71 = .ok (.iload 4, 2) := by decide +kernel
theorem dX0_weigh_73 : decode cX0_weigh 73 = .ok (.invokevirtual 55, 3) := by decide +kernel
theorem dX0_weigh_76 : decode cX0_weigh 76 = .ok (.isub, 1) := by decide +kernel
theorem dX0_weigh_77 : decode cX0_weigh 77 = .ok (.iastore, 1) := by decide +kernel
theorem dX0_weigh_78 : decode cX0_weigh 78 = .ok (.iinc 4 1, 3) := by decide +kernel
theorem dX0_weigh_81 : decode cX0_weigh 81 = .ok (.goto (-59), 3) := by decide +kernel
theorem dX0_weigh_84 : decode cX0_weigh 84 = .ok (.iinc 3 1, 3) := by decide +kernel
theorem dX0_weigh_87 : decode cX0_weigh 87 = .ok (.goto (-76), 3) := by decide +kernel
theorem dX0_weigh_90 : decode cX0_weigh 90 = .ok (.return_, 1) := by decide +kernel
theorem dX0_bestFrom_0 : decode cX0_bestFrom 0 = .ok (.aload_n 0, 1) := by decide +kernel
theorem dX0_bestFrom_1 : decode cX0_bestFrom 1 = .ok (.getfield 15, 3) := by decide +kernel
theorem dX0_bestFrom_4 : decode cX0_bestFrom 4 = .ok (.iload_n 2, 1) := by decide +kernel
theorem dX0_bestFrom_5 : decode cX0_bestFrom 5 = .ok (.iconst 1, 1) := by decide +kernel
theorem dX0_bestFrom_6 : decode cX0_bestFrom 6 = .ok (.iadd, 1) := by decide +kernel
theorem dX0_bestFrom_7 : decode cX0_bestFrom 7 = .ok (.bipush 64, 2) := by decide +kernel
theorem dX0_bestFrom_9 : decode cX0_bestFrom 9 = .ok (.imul, 1) := by decide +kernel
theorem dX0_bestFrom_10 : decode cX0_bestFrom 10 = .ok (.iload_n 3, 1) := by decide +kernel
theorem dX0_bestFrom_11 : decode cX0_bestFrom 11 = .ok (.iadd, 1) := by decide +kernel
theorem dX0_bestFrom_12 : decode cX0_bestFrom 12 = .ok (.iaload, 1) := by decide +kernel
theorem dX0_bestFrom_13 : decode cX0_bestFrom 13 = .ok (.istore 4, 2) := by decide +kernel
theorem dX0_bestFrom_15 : decode cX0_bestFrom 15 = .ok (.iconst 0, 1) := by decide +kernel
theorem dX0_bestFrom_16 : decode cX0_bestFrom 16 = .ok (.istore 5, 2) := by decide +kernel
theorem dX0_bestFrom_18 : decode cX0_bestFrom 18 = .ok (.iload 5, 2) := by decide +kernel
theorem dX0_bestFrom_20 : decode cX0_bestFrom 20 = .ok (.aload_n 1, 1) := by decide +kernel
theorem dX0_bestFrom_21 : decode cX0_bestFrom 21 = .ok (.getfield 39, 3) := by decide +kernel
theorem dX0_bestFrom_24 : decode cX0_bestFrom 24 = .ok (.if_icmp .ge 33, 3) := by decide +kernel
theorem dX0_bestFrom_27 : decode cX0_bestFrom 27 = .ok (.iload_n 3, 1) := by decide +kernel
theorem dX0_bestFrom_28 : decode cX0_bestFrom 28 = .ok (.iload 5, 2) := by decide +kernel
theorem dX0_bestFrom_30 : decode cX0_bestFrom 30 = .ok (.ishr, 1) := by decide +kernel
theorem dX0_bestFrom_31 : decode cX0_bestFrom 31 = .ok (.iconst 1, 1) := by decide +kernel
theorem dX0_bestFrom_32 : decode cX0_bestFrom 32 = .ok (.iand, 1) := by decide +kernel
theorem dX0_bestFrom_33 : decode cX0_bestFrom 33 = .ok (.ifCond .ne 18, 3) := by decide +kernel
theorem dX0_bestFrom_36 : decode cX0_bestFrom 36 = .ok (.iload 4, 2) := by decide +kernel
theorem dX0_bestFrom_38 : decode cX0_bestFrom 38 = .ok (.aload_n 0, 1) := by decide +kernel
theorem dX0_bestFrom_39 : decode cX0_bestFrom 39 = .ok (.iload_n 2, 1) := by decide +kernel
theorem dX0_bestFrom_40 : decode cX0_bestFrom 40 = .ok (.iload 5, 2) := by decide +kernel
theorem dX0_bestFrom_42 : decode cX0_bestFrom 42 = .ok (.iload_n 3, 1) := by decide +kernel
theorem dX0_bestFrom_43 : decode cX0_bestFrom 43 = .ok (.invokevirtual 58, 3) := by decide +kernel
theorem dX0_bestFrom_46 : decode cX0_bestFrom 46 = .ok (.invokestatic 62, 3) := by decide +kernel
theorem dX0_bestFrom_49 : decode cX0_bestFrom 49 = .ok (.istore 4, 2) := by decide +kernel
theorem dX0_bestFrom_51 : decode cX0_bestFrom 51 = .ok (.iinc 5 1, 3) := by decide +kernel
theorem dX0_bestFrom_54 : decode cX0_bestFrom 54 = .ok (.goto (-36), 3) := by decide +kernel
theorem dX0_bestFrom_57 : decode cX0_bestFrom 57 = .ok (.iload 4, 2) := by decide +kernel
theorem dX0_bestFrom_59 : decode cX0_bestFrom 59 = .ok (.ireturn, 1) := by decide +kernel
theorem dX0_sumWith_0 : decode cX0_sumWith 0 = .ok (.aload_n 0, 1) := by decide +kernel
theorem dX0_sumWith_1 : decode cX0_sumWith 1 = .ok (.getfield 9, 3) := by decide +kernel
theorem dX0_sumWith_4 : decode cX0_sumWith 4 = .ok (.iload_n 1, 1) := by decide +kernel
theorem dX0_sumWith_5 : decode cX0_sumWith 5 = .ok (.bipush 6, 2) := by decide +kernel
theorem dX0_sumWith_7 : decode cX0_sumWith 7 = .ok (.imul, 1) := by decide +kernel
theorem dX0_sumWith_8 : decode cX0_sumWith 8 = .ok (.iload_n 2, 1) := by decide +kernel
theorem dX0_sumWith_9 : decode cX0_sumWith 9 = .ok (.iadd, 1) := by decide +kernel
theorem dX0_sumWith_10 : decode cX0_sumWith 10 = .ok (.iaload, 1) := by decide +kernel
theorem dX0_sumWith_11 : decode cX0_sumWith 11 = .ok (.aload_n 0, 1) := by decide +kernel
theorem dX0_sumWith_12 : decode cX0_sumWith 12 = .ok (.getfield 15, 3) := by decide +kernel
theorem dX0_sumWith_15 : decode cX0_sumWith 15 = .ok (.iload_n 1, 1) := by decide +kernel
theorem dX0_sumWith_16 : decode cX0_sumWith 16 = .ok (.iconst 1, 1) := by decide +kernel
theorem dX0_sumWith_17 : decode cX0_sumWith 17 = .ok (.iadd, 1) := by decide +kernel
theorem dX0_sumWith_18 : decode cX0_sumWith 18 = .ok (.bipush 64, 2) := by decide +kernel
theorem dX0_sumWith_20 : decode cX0_sumWith 20 = .ok (.imul, 1) := by decide +kernel
theorem dX0_sumWith_21 : decode cX0_sumWith 21 = .ok (.iload_n 3, 1) := by decide +kernel
theorem dX0_sumWith_22 : decode cX0_sumWith 22 = .ok (.iconst 1, 1) := by decide +kernel
theorem dX0_sumWith_23 : decode cX0_sumWith 23 = .ok (.iload_n 2, 1) := by decide +kernel
theorem dX0_sumWith_24 : decode cX0_sumWith 24 = .ok (.ishl, 1) := by decide +kernel
theorem dX0_sumWith_25 : decode cX0_sumWith 25 = .ok (.ior, 1) := by decide +kernel
theorem dX0_sumWith_26 : decode cX0_sumWith 26 = .ok (.iadd, 1) := by decide +kernel
theorem dX0_sumWith_27 : decode cX0_sumWith 27 = .ok (.iaload, 1) := by decide +kernel
theorem dX0_sumWith_28 : decode cX0_sumWith 28 = .ok (.iadd, 1) := by decide +kernel
theorem dX0_sumWith_29 : decode cX0_sumWith 29 = .ok (.ireturn, 1) := by decide +kernel
theorem dX0_thingOf_0 : decode cX0_thingOf 0 = .ok (.iconst 0, 1) := by decide +kernel
theorem dX0_thingOf_1 : decode cX0_thingOf 1 = .ok (.istore_n 3, 1) := by decide +kernel
theorem dX0_thingOf_2 : decode cX0_thingOf 2 = .ok (.bipush (-9), 2) := by decide +kernel
theorem dX0_thingOf_4 : decode cX0_thingOf 4 = .ok (.istore 4, 2) := by decide +kernel
theorem dX0_thingOf_6 : decode cX0_thingOf 6 = .ok (.iconst 0, 1) := by decide +kernel
theorem dX0_thingOf_7 : decode cX0_thingOf 7 = .ok (.istore 5, 2) := by decide +kernel
theorem dX0_thingOf_9 : decode cX0_thingOf 9 = .ok (.iload 5, 2) := by decide +kernel
theorem dX0_thingOf_11 : decode cX0_thingOf 11 = .ok (.iload_n 2, 1) := by decide +kernel
theorem dX0_thingOf_12 : decode cX0_thingOf 12 = .ok (.if_icmp .gt 42, 3) := by decide +kernel
theorem dX0_thingOf_15 : decode cX0_thingOf 15 = .ok (.iload 5, 2) := by decide +kernel
theorem dX0_thingOf_17 : decode cX0_thingOf 17 = .ok (.aload_n 1, 1) := by decide +kernel
theorem dX0_thingOf_18 : decode cX0_thingOf 18 = .ok (.getfield 28, 3) := by decide +kernel
theorem dX0_thingOf_21 : decode cX0_thingOf 21 = .ok (.if_icmp .ge 33, 3) := by decide +kernel
theorem dX0_thingOf_24 : decode cX0_thingOf 24 = .ok (.aload_n 0, 1) := by decide +kernel
theorem dX0_thingOf_25 : decode cX0_thingOf 25 = .ok (.aload_n 1, 1) := by decide +kernel
theorem dX0_thingOf_26 : decode cX0_thingOf 26 = .ok (.iload 5, 2) := by decide +kernel
theorem dX0_thingOf_28 : decode cX0_thingOf 28 = .ok (.iload_n 3, 1) := by decide +kernel
theorem dX0_thingOf_29 : decode cX0_thingOf 29 = .ok (.invokevirtual 67, 3) := by decide +kernel
theorem dX0_thingOf_32 : decode cX0_thingOf 32 = .ok (.istore 4, 2) := by decide +kernel
theorem dX0_thingOf_34 : decode cX0_thingOf 34 = .ok (.iload 4, 2) := by decide +kernel
theorem dX0_thingOf_36 : decode cX0_thingOf 36 = .ok (.bipush (-9), 2) := by decide +kernel
theorem dX0_thingOf_38 : decode cX0_thingOf 38 = .ok (.if_icmp .eq 10, 3) := by decide +kernel
theorem dX0_thingOf_41 : decode cX0_thingOf 41 = .ok (.iload_n 3, 1) := by decide +kernel
theorem dX0_thingOf_42 : decode cX0_thingOf 42 = .ok (.iconst 1, 1) := by decide +kernel
theorem dX0_thingOf_43 : decode cX0_thingOf 43 = .ok (.iload 4, 2) := by decide +kernel
theorem dX0_thingOf_45 : decode cX0_thingOf 45 = .ok (.ishl, 1) := by decide +kernel
theorem dX0_thingOf_46 : decode cX0_thingOf 46 = .ok (.ior, 1) := by decide +kernel
theorem dX0_thingOf_47 : decode cX0_thingOf 47 = .ok (.istore_n 3, 1) := by decide +kernel
theorem dX0_thingOf_48 : decode cX0_thingOf 48 = .ok (.iinc 5 1, 3) := by decide +kernel
theorem dX0_thingOf_51 : decode cX0_thingOf 51 = .ok (.goto (-42), 3) := by decide +kernel
theorem dX0_thingOf_54 : decode cX0_thingOf 54 = .ok (.iload 4, 2) := by decide +kernel
theorem dX0_thingOf_56 : decode cX0_thingOf 56 = .ok (.ireturn, 1) := by decide +kernel
theorem dX0_firstChoice_0 : decode cX0_firstChoice 0 = .ok (.aload_n 0, 1) := by decide +kernel
theorem dX0_firstChoice_1 : decode cX0_firstChoice 1 = .ok (.getfield 15, 3) := by decide +kernel
theorem dX0_firstChoice_4 : decode cX0_firstChoice 4 = .ok (.iload_n 2, 1) := by decide +kernel
theorem dX0_firstChoice_5 : decode cX0_firstChoice 5 = .ok (.bipush 64, 2) := by decide +kernel
theorem dX0_firstChoice_7 : decode cX0_firstChoice 7 = .ok (.imul, 1) := by decide +kernel
theorem dX0_firstChoice_8 : decode cX0_firstChoice 8 = .ok (.iload_n 3, 1) := by decide +kernel
theorem dX0_firstChoice_9 : decode cX0_firstChoice 9 = .ok (.iadd, 1) := by decide +kernel
theorem dX0_firstChoice_10 : decode cX0_firstChoice 10 = .ok (.iaload, 1) := by decide +kernel
theorem dX0_firstChoice_11 : decode cX0_firstChoice 11 = .ok (.istore 4, 2) := by decide +kernel
theorem dX0_firstChoice_13 : decode cX0_firstChoice 13 = .ok (.aload_n 0, 1) := by decide +kernel
theorem dX0_firstChoice_14 : decode cX0_firstChoice 14 = .ok (.getfield 15, 3) := by decide +kernel
theorem dX0_firstChoice_17 : decode cX0_firstChoice 17 = .ok (.iload_n 2, 1) := by decide +kernel
theorem dX0_firstChoice_18 : decode cX0_firstChoice 18 = .ok (.iconst 1, 1) := by decide +kernel
theorem dX0_firstChoice_19 : decode cX0_firstChoice 19 = .ok (.iadd, 1) := by decide +kernel
theorem dX0_firstChoice_20 : decode cX0_firstChoice 20 = .ok (.bipush 64, 2) := by decide +kernel
theorem dX0_firstChoice_22 : decode cX0_firstChoice 22 = .ok (.imul, 1) := by decide +kernel
theorem dX0_firstChoice_23 : decode cX0_firstChoice 23 = .ok (.iload_n 3, 1) := by decide +kernel
theorem dX0_firstChoice_24 : decode cX0_firstChoice 24 = .ok (.iadd, 1) := by decide +kernel
theorem dX0_firstChoice_25 : decode cX0_firstChoice 25 = .ok (.iaload, 1) := by decide +kernel
theorem dX0_firstChoice_26 : decode cX0_firstChoice 26 = .ok (.iload 4, 2) := by decide +kernel
theorem dX0_firstChoice_28 : decode cX0_firstChoice 28 = .ok (.if_icmp .ne 6, 3) := by decide +kernel
theorem dX0_firstChoice_31 : decode cX0_firstChoice 31 = .ok (.bipush (-9), 2) := by decide +kernel
theorem dX0_firstChoice_33 : decode cX0_firstChoice 33 = .ok (.ireturn, 1) := by decide +kernel
theorem dX0_firstChoice_34 : decode cX0_firstChoice 34 = .ok (.iconst 0, 1) := by decide +kernel
theorem dX0_firstChoice_35 : decode cX0_firstChoice 35 = .ok (.istore 5, 2) := by decide +kernel
theorem dX0_firstChoice_37 : decode cX0_firstChoice 37 = .ok (.iload 5, 2) := by decide +kernel
theorem dX0_firstChoice_39 : decode cX0_firstChoice 39 = .ok (.aload_n 1, 1) := by decide +kernel
theorem dX0_firstChoice_40 : decode cX0_firstChoice 40 = .ok (.getfield 39, 3) := by decide +kernel
theorem dX0_firstChoice_43 : decode cX0_firstChoice 43 = .ok (.if_icmp .ge 34, 3) := by decide +kernel
theorem dX0_firstChoice_46 : decode cX0_firstChoice 46 = .ok (.iload_n 3, 1) := by decide +kernel
theorem dX0_firstChoice_47 : decode cX0_firstChoice 47 = .ok (.iload 5, 2) := by decide +kernel
theorem dX0_firstChoice_49 : decode cX0_firstChoice 49 = .ok (.ishr, 1) := by decide +kernel
theorem dX0_firstChoice_50 : decode cX0_firstChoice 50 = .ok (.iconst 1, 1) := by decide +kernel
theorem dX0_firstChoice_51 : decode cX0_firstChoice 51 = .ok (.iand, 1) := by decide +kernel
theorem dX0_firstChoice_52 : decode cX0_firstChoice 52 = .ok (.ifCond .ne 19, 3) := by decide +kernel
theorem dX0_firstChoice_55 : decode cX0_firstChoice 55 = .ok (.aload_n 0, 1) := by decide +kernel
theorem dX0_firstChoice_56 : decode cX0_firstChoice 56 = .ok (.iload_n 2, 1) := by decide +kernel
theorem dX0_firstChoice_57 : decode cX0_firstChoice 57 = .ok (.iload 5, 2) := by decide +kernel
theorem dX0_firstChoice_59 : decode cX0_firstChoice 59 = .ok (.iload_n 3, 1) := by decide +kernel
theorem dX0_firstChoice_60 : decode cX0_firstChoice 60 = .ok (.invokevirtual 58, 3) := by decide +kernel
theorem dX0_firstChoice_63 : decode cX0_firstChoice 63 = .ok (.iload 4, 2) := by decide +kernel
theorem dX0_firstChoice_65 : decode cX0_firstChoice 65 = .ok (.if_icmp .ne 6, 3) := by decide +kernel
theorem dX0_firstChoice_68 : decode cX0_firstChoice 68 = .ok (.iload 5, 2) := by decide +kernel
theorem dX0_firstChoice_70 : decode cX0_firstChoice 70 = .ok (.ireturn, 1) := by decide +kernel
theorem dX0_firstChoice_71 : decode cX0_firstChoice 71 = .ok (.iinc 5 1, 3) := by decide +kernel
theorem dX0_firstChoice_74 : decode cX0_firstChoice 74 = .ok (.goto (-37), 3) := by decide +kernel
theorem dX0_firstChoice_77 : decode cX0_firstChoice 77 = .ok (.bipush (-9), 2) := by decide +kernel
theorem dX0_firstChoice_79 : decode cX0_firstChoice 79 = .ok (.ireturn, 1) := by decide +kernel
theorem dX1_init_0 : decode cX1_init 0 = .ok (.aload_n 0, 1) := by decide +kernel
theorem dX1_init_1 : decode cX1_init 1 = .ok (.invokespecial 3, 3) := by decide +kernel
theorem dX1_init_4 : decode cX1_init 4 = .ok (.aload_n 0, 1) := by decide +kernel
theorem dX1_init_5 : decode cX1_init 5 = .ok (.bipush 64, 2) := by decide +kernel
theorem dX1_init_7 : decode cX1_init 7 = .ok (.newarray .int, 2) := by decide +kernel
theorem dX1_init_9 : decode cX1_init 9 = .ok (.putfield 9, 3) := by decide +kernel
theorem dX1_init_12 : decode cX1_init 12 = .ok (.aload_n 0, 1) := by decide +kernel
theorem dX1_init_13 : decode cX1_init 13 = .ok (.bipush 7, 2) := by decide +kernel
theorem dX1_init_15 : decode cX1_init 15 = .ok (.newarray .int, 2) := by decide +kernel
theorem dX1_init_17 : decode cX1_init 17 = .ok (.putfield 15, 3) := by decide +kernel
theorem dX1_init_20 : decode cX1_init 20 = .ok (.return_, 1) := by decide +kernel
theorem dX1_add_0 : decode cX1_add 0 = .ok (.aload_n 0, 1) := by decide +kernel
theorem dX1_add_1 : decode cX1_add 1 = .ok (.getfield 18, 3) := by decide +kernel
theorem dX1_add_4 : decode cX1_add 4 = .ok (.aload_n 0, 1) := by decide +kernel
theorem dX1_add_5 : decode cX1_add 5 = .ok (.getfield 9, 3) := by decide +kernel
theorem dX1_add_8 : decode cX1_add 8 = .ok (.arraylength, 1) := by decide +kernel
theorem dX1_add_9 : decode cX1_add 9 = .ok (.if_icmp .lt 5, 3) := by decide +kernel
theorem dX1_add_12 : decode cX1_add 12 = .ok (.iconst 0, 1) := by decide +kernel
theorem dX1_add_13 : decode cX1_add 13 = .ok (.ireturn, 1) := by decide +kernel
theorem dX1_add_14 : decode cX1_add 14 = .ok (.aload_n 0, 1) := by decide +kernel
theorem dX1_add_15 : decode cX1_add 15 = .ok (.getfield 9, 3) := by decide +kernel
theorem dX1_add_18 : decode cX1_add 18 = .ok (.aload_n 0, 1) := by decide +kernel
theorem dX1_add_19 : decode cX1_add 19 = .ok (.getfield 18, 3) := by decide +kernel
theorem dX1_add_22 : decode cX1_add 22 = .ok (.iload_n 1, 1) := by decide +kernel
theorem dX1_add_23 : decode cX1_add 23 = .ok (.iastore, 1) := by decide +kernel
theorem dX1_add_24 : decode cX1_add 24 = .ok (.aload_n 0, 1) := by decide +kernel
theorem dX1_add_25 : decode cX1_add 25 = .ok (.dup, 1) := by decide +kernel
theorem dX1_add_26 : decode cX1_add 26 = .ok (.getfield 18, 3) := by decide +kernel
theorem dX1_add_29 : decode cX1_add 29 = .ok (.iconst 1, 1) := by decide +kernel
theorem dX1_add_30 : decode cX1_add 30 = .ok (.iadd, 1) := by decide +kernel
theorem dX1_add_31 : decode cX1_add 31 = .ok (.putfield 18, 3) := by decide +kernel
theorem dX1_add_34 : decode cX1_add 34 = .ok (.iconst 1, 1) := by decide +kernel
theorem dX1_add_35 : decode cX1_add 35 = .ok (.ireturn, 1) := by decide +kernel
theorem dX1_firstBadSign_0 : decode cX1_firstBadSign 0 = .ok (.iconst 0, 1) := by decide +kernel
theorem dX1_firstBadSign_1 : decode cX1_firstBadSign 1 = .ok (.istore_n 1, 1) := by decide +kernel
theorem dX1_firstBadSign_2 : decode cX1_firstBadSign 2 = .ok (.iconst 0, 1) := by decide +kernel
theorem dX1_firstBadSign_3 : decode cX1_firstBadSign 3 = .ok (.istore_n 2, 1) := by decide +kernel
theorem dX1_firstBadSign_4 : decode cX1_firstBadSign 4 = .ok (.iload_n 2, 1) := by decide +kernel
theorem dX1_firstBadSign_5 : decode cX1_firstBadSign 5 = .ok (.bipush 64, 2) := by decide +kernel
theorem dX1_firstBadSign_7 : decode cX1_firstBadSign 7 = .ok (.if_icmp .ge 35, 3) := by decide +kernel
theorem dX1_firstBadSign_10 : decode cX1_firstBadSign 10 = .ok (.aload_n 0, 1) := by decide +kernel
theorem dX1_firstBadSign_11 : decode cX1_firstBadSign 11 = .ok (.iload_n 1, 1) := by decide +kernel
theorem dX1_firstBadSign_12 : decode cX1_firstBadSign 12 = .ok (.invokevirtual 22, 3) := by decide +kernel
theorem dX1_firstBadSign_15 : decode cX1_firstBadSign 15 = .ok (.istore_n 3, 1) := by decide +kernel
theorem dX1_firstBadSign_16 : decode cX1_firstBadSign 16 = .ok (.iload_n 3, 1) := by decide +kernel
theorem dX1_firstBadSign_17 : decode cX1_firstBadSign 17 = .ok (.ifCond .ge 7, 3) := by decide +kernel
theorem dX1_firstBadSign_20 : decode cX1_firstBadSign 20 = .ok (.iconst (-1), 1) := by decide +kernel
theorem dX1_firstBadSign_21 : decode cX1_firstBadSign 21 = .ok (.iload_n 3, 1) := by decide +kernel
theorem dX1_firstBadSign_22 : decode cX1_firstBadSign 22 = .ok (.isub, 1) := by decide +kernel
theorem dX1_firstBadSign_23 : decode cX1_firstBadSign 23 = .ok (.ireturn, 1) := by decide +kernel
theorem dX1_firstBadSign_24 : decode cX1_firstBadSign 24 = .ok (.iload_n 3, 1) := by decide +kernel
theorem dX1_firstBadSign_25 : decode cX1_firstBadSign 25 = .ok (.aload_n 0, 1) := by decide +kernel
theorem dX1_firstBadSign_26 : decode cX1_firstBadSign 26 = .ok (.getfield 18, 3) := by decide +kernel
theorem dX1_firstBadSign_29 : decode cX1_firstBadSign 29 = .ok (.if_icmp .lt 5, 3) := by decide +kernel
theorem dX1_firstBadSign_32 : decode cX1_firstBadSign 32 = .ok (.iconst (-1), 1) := by decide +kernel
theorem dX1_firstBadSign_33 : decode cX1_firstBadSign 33 = .ok (.ireturn, 1) := by decide +kernel
theorem dX1_firstBadSign_34 : decode cX1_firstBadSign 34 = .ok (.iload_n 3, 1) := by decide +kernel
theorem dX1_firstBadSign_35 : decode cX1_firstBadSign 35 = .ok (.istore_n 1, 1) := by decide +kernel
theorem dX1_firstBadSign_36 : decode cX1_firstBadSign 36 = .ok (.iinc 2 1, 3) := by decide +kernel
theorem dX1_firstBadSign_39 : decode cX1_firstBadSign 39 = .ok (.goto (-35), 3) := by decide +kernel
theorem dX1_firstBadSign_42 : decode cX1_firstBadSign 42 = .ok (.iload_n 1, 1) := by decide +kernel
theorem dX1_firstBadSign_43 : decode cX1_firstBadSign 43 = .ok (.ireturn, 1) := by decide +kernel
theorem dX1_read_0 : decode cX1_read 0 = .ok (.aload_n 0, 1) := by decide +kernel
theorem dX1_read_1 : decode cX1_read 1 = .ok (.aload_n 0, 1) := by decide +kernel
theorem dX1_read_2 : decode cX1_read 2 = .ok (.iload_n 1, 1) := by decide +kernel
theorem dX1_read_3 : decode cX1_read 3 = .ok (.invokevirtual 26, 3) := by decide +kernel
theorem dX1_read_6 : decode cX1_read 6 = .ok (.putfield 29, 3) := by decide +kernel
theorem dX1_read_9 : decode cX1_read 9 = .ok (.aload_n 0, 1) := by decide +kernel
theorem dX1_read_10 : decode cX1_read 10 = .ok (.aload_n 0, 1) := by decide +kernel
theorem dX1_read_11 : decode cX1_read 11 = .ok (.getfield 29, 3) := by decide +kernel
theorem dX1_read_14 : decode cX1_read 14 = .ok (.invokevirtual 32, 3) := by decide +kernel
theorem dX1_read_17 : decode cX1_read 17 = .ok (.astore_n 2, 1) := by decide +kernel
theorem dX1_read_18 : decode cX1_read 18 = .ok (.aload_n 2, 1) := by decide +kernel
theorem dX1_read_19 : decode cX1_read 19 = .ok (.invokevirtual 36, 3) := by decide +kernel
theorem dX1_read_22 : decode cX1_read 22 = .ok (.ifCond .eq 7, 3) := by decide +kernel
theorem dX1_read_25 : decode cX1_read 25 = .ok (.iconst (-1), 1) := by decide +kernel
theorem dX1_read_26 : decode cX1_read 26 = .ok (.iload_n 1, 1) := by decide +kernel
theorem dX1_read_27 : decode cX1_read 27 = .ok (.isub, 1) := by decide +kernel
theorem dX1_read_28 : decode cX1_read 28 = .ok (.ireturn, 1) := by decide +kernel
theorem dX1_read_29 : decode cX1_read 29 = .ok (.iload_n 1, 1) := by decide +kernel
theorem dX1_read_30 : decode cX1_read 30 = .ok (.iconst 1, 1) := by decide +kernel
theorem dX1_read_31 : decode cX1_read 31 = .ok (.iadd, 1) := by decide +kernel
theorem dX1_read_32 : decode cX1_read 32 = .ok (.istore_n 3, 1) := by decide +kernel
theorem dX1_read_33 : decode cX1_read 33 = .ok (.iconst 0, 1) := by decide +kernel
theorem dX1_read_34 : decode cX1_read 34 = .ok (.istore 4, 2) := by decide +kernel
theorem dX1_read_36 : decode cX1_read 36 = .ok (.iconst 0, 1) := by decide +kernel
theorem dX1_read_37 : decode cX1_read 37 = .ok (.istore 5, 2) := by decide +kernel
theorem dX1_read_39 : decode cX1_read 39 = .ok (.iload 5, 2) := by decide +kernel
theorem dX1_read_41 : decode cX1_read 41 = .ok (.aload_n 2, 1) := by decide +kernel
theorem dX1_read_42 : decode cX1_read 42 = .ok (.invokevirtual 42, 3) := by decide +kernel
theorem dX1_read_45 : decode cX1_read 45 = .ok (.if_icmp .ge 107, 3) := by decide +kernel
theorem dX1_read_48 : decode cX1_read 48 = .ok (.aload_n 2, 1) := by decide +kernel
theorem dX1_read_49 : decode cX1_read 49 = .ok (.iload 5, 2) := by decide +kernel
theorem dX1_read_51 : decode cX1_read 51 = .ok (.invokevirtual 45, 3) := by decide +kernel
theorem dX1_read_54 : decode cX1_read 54 = .ok (.istore 6, 2) := by decide +kernel
theorem dX1_read_56 : decode cX1_read 56 = .ok (.iconst 0, 1) := by decide +kernel
theorem dX1_read_57 : decode cX1_read 57 = .ok (.istore 7, 2) := by decide +kernel
theorem dX1_read_59 : decode cX1_read 59 = .ok (.iload 6, 2) := by decide +kernel
theorem dX1_read_61 : decode cX1_read 61 = .ok (.bipush 44, 2) := by decide +kernel
theorem dX1_read_63 : decode cX1_read 63 = .ok (.if_icmp .eq 10, 3) := by decide +kernel
theorem dX1_read_66 : decode cX1_read 66 = .ok (.iload 6, 2) := by decide +kernel
theorem dX1_read_68 : decode cX1_read 68 = .ok (.bipush 59, 2) := by decide +kernel
theorem dX1_read_70 : decode cX1_read 70 = .ok (.if_icmp .ne 23, 3) := by decide +kernel
theorem dX1_read_73 : decode cX1_read 73 = .ok (.aload_n 0, 1) := by decide +kernel
theorem dX1_read_74 : decode cX1_read 74 = .ok (.iload_n 3, 1) := by decide +kernel
theorem dX1_read_75 : decode cX1_read 75 = .ok (.invokevirtual 26, 3) := by decide +kernel
theorem dX1_read_78 : decode cX1_read 78 = .ok (.iload 6, 2) := by decide +kernel
theorem dX1_read_80 : decode cX1_read 80 = .ok (.if_icmp .ne 7, 3) := by decide +kernel
theorem dX1_read_83 : decode cX1_read 83 = .ok (.iconst 1, 1) := by decide +kernel
theorem dX1_read_84 : decode cX1_read 84 = .ok (.goto 4, 3) := by decide +kernel
theorem dX1_read_87 : decode cX1_read 87 = .ok (.iconst 0, 1) := by decide +kernel
theorem dX1_read_88 : decode cX1_read 88 = .ok (.istore 7, 2) := by decide +kernel
theorem dX1_read_90 : decode cX1_read 90 = .ok (.goto 42, 3) := by decide +kernel
theorem dX1_read_93 : decode cX1_read 93 = .ok (.iload 4, 2) := by decide +kernel
theorem dX1_read_95 : decode cX1_read 95 = .ok (.aload_n 0, 1) := by decide +kernel
theorem dX1_read_96 : decode cX1_read 96 = .ok (.getfield 15, 3) := by decide +kernel
theorem dX1_read_99 : decode cX1_read 99 = .ok (.arraylength, 1) := by decide +kernel
theorem dX1_read_100 : decode cX1_read 100 = .ok (.if_icmp .ge 32, 3) := by decide +kernel
theorem dX1_read_103 : decode cX1_read 103 = .ok (.aload_n 0, 1) := by decide +kernel
theorem dX1_read_104 : decode cX1_read 104 = .ok (.iload_n 3, 1) := by decide +kernel
theorem dX1_read_105 : decode cX1_read 105 = .ok (.iload 6, 2) := by decide +kernel
theorem dX1_read_107 : decode cX1_read 107 = .ok (.bipush 48, 2) := by decide +kernel
theorem dX1_read_109 : decode cX1_read 109 = .ok (.isub, 1) := by decide +kernel
theorem dX1_read_110 : decode cX1_read 110 = .ok (.invokevirtual 49, 3) := by decide +kernel
theorem dX1_read_113 : decode cX1_read 113 = .ok (.istore 7, 2) := by decide +kernel
theorem dX1_read_115 : decode cX1_read 115 = .ok (.aload_n 0, 1) := by decide +kernel
theorem dX1_read_116 : decode cX1_read 116 = .ok (.getfield 15, 3) := by decide +kernel
theorem dX1_read_119 : decode cX1_read 119 = .ok (.iload 4, 2) := by decide +kernel
theorem dX1_read_121 : decode cX1_read 121 = .ok (.aload_n 0, 1) := by decide +kernel
theorem dX1_read_122 : decode cX1_read 122 = .ok (.iload_n 3, 1) := by decide +kernel
theorem dX1_read_123 : decode cX1_read 123 = .ok (.iload 7, 2) := by decide +kernel
theorem dX1_read_125 : decode cX1_read 125 = .ok (.invokevirtual 53, 3) := by decide +kernel
theorem dX1_read_128 : decode cX1_read 128 = .ok (.iastore, 1) := by decide +kernel
theorem dX1_read_129 : decode cX1_read 129 = .ok (.iinc 4 1, 3) := by decide +kernel
theorem dX1_read_132 : decode cX1_read 132 = .ok (.iload 7, 2) := by decide +kernel
theorem dX1_read_134 : decode cX1_read 134 = .ok (.ifCond .ne 7, 3) := by decide +kernel
theorem dX1_read_137 : decode cX1_read 137 = .ok (.iconst (-1), 1) := by decide +kernel
theorem dX1_read_138 : decode cX1_read 138 = .ok (.iload_n 3, 1) := by decide +kernel
theorem dX1_read_139 : decode cX1_read 139 = .ok (.isub, 1) := by decide +kernel
theorem dX1_read_140 : decode cX1_read 140 = .ok (.ireturn, 1) := by decide +kernel
theorem dX1_read_141 : decode cX1_read 141 = .ok (.iload_n 3, 1) := by decide +kernel
theorem dX1_read_142 : decode cX1_read 142 = .ok (.iload 7, 2) := by decide +kernel
theorem dX1_read_144 : decode cX1_read 144 = .ok (.iadd, 1) := by decide +kernel
theorem dX1_read_145 : decode cX1_read 145 = .ok (.istore_n 3, 1) := by decide +kernel
theorem dX1_read_146 : decode cX1_read 146 = .ok (.iinc 5 1, 3) := by decide +kernel
theorem dX1_read_149 : decode cX1_read 149 = .ok (.goto (-110), 3) := by decide +kernel
theorem dX1_read_152 : decode cX1_read 152 = .ok (.iload_n 3, 1) := by decide +kernel
theorem dX1_read_153 : decode cX1_read 153 = .ok (.ireturn, 1) := by decide +kernel
theorem dX1_formOf_0 : decode cX1_formOf 0 = .ok (.iload_n 1, 1) := by decide +kernel
theorem dX1_formOf_1 : decode cX1_formOf 1 = .ok (.tableswitch 67 110 119 #[55, 67, 61, 67, 67, 67, 64, 67, 67, 58], 55) := by decide +kernel
theorem dX1_formOf_56 : decode cX1_formOf 56 = .ok (.ldc 56, 2) := by decide +kernel
theorem dX1_formOf_58 : decode cX1_formOf 58 = .ok (.areturn, 1) := by decide +kernel
theorem dX1_formOf_59 : decode cX1_formOf 59 = .ok (.ldc 58, 2) := by decide +kernel
theorem dX1_formOf_61 : decode cX1_formOf 61 = .ok (.areturn, 1) := by decide +kernel
theorem dX1_formOf_62 : decode cX1_formOf 62 = .ok (.ldc 60, 2) := by decide +kernel
theorem dX1_formOf_64 : decode cX1_formOf 64 = .ok (.areturn, 1) := by decide +kernel
theorem dX1_formOf_65 : decode cX1_formOf 65 = .ok (.ldc 62, 2) := by decide +kernel
theorem dX1_formOf_67 : decode cX1_formOf 67 = .ok (.areturn, 1) := by decide +kernel
theorem dX1_formOf_68 : decode cX1_formOf 68 = .ok (.ldc 64, 2) := by decide +kernel
theorem dX1_formOf_70 : decode cX1_formOf 70 = .ok (.areturn, 1) := by decide +kernel
theorem dX1_signAt_0 : decode cX1_signAt 0 = .ok (.iload_n 1, 1) := by decide +kernel
theorem dX1_signAt_1 : decode cX1_signAt 1 = .ok (.ifCond .lt 29, 3) := by decide +kernel
theorem dX1_signAt_4 : decode cX1_signAt 4 = .ok (.iload_n 1, 1) := by decide +kernel
theorem dX1_signAt_5 : decode cX1_signAt 5 = .ok (.aload_n 0, 1) := by decide +kernel
theorem dX1_signAt_6 : decode cX1_signAt 6 = .ok (.getfield 18, 3) := by decide +kernel
theorem dX1_signAt_9 : decode cX1_signAt 9 = .ok (.if_icmp .ge 21, 3) := by decide +kernel
theorem dX1_signAt_12 : decode cX1_signAt 12 = .ok (.iload_n 1, 1) := by decide +kernel
theorem dX1_signAt_13 : decode cX1_signAt 13 = .ok (.aload_n 0, 1) := by decide +kernel
theorem dX1_signAt_14 : decode cX1_signAt 14 = .ok (.getfield 9, 3) := by decide +kernel
theorem dX1_signAt_17 : decode cX1_signAt 17 = .ok (.arraylength, 1) := by decide +kernel
theorem dX1_signAt_18 : decode cX1_signAt 18 = .ok (.if_icmp .ge 12, 3) := by decide +kernel
theorem dX1_signAt_21 : decode cX1_signAt 21 = .ok (.aload_n 0, 1) := by decide +kernel
theorem dX1_signAt_22 : decode cX1_signAt 22 = .ok (.getfield 9, 3) := by decide +kernel
theorem dX1_signAt_25 : decode cX1_signAt 25 = .ok (.iload_n 1, 1) := by decide +kernel
theorem dX1_signAt_26 : decode cX1_signAt 26 = .ok (.iaload, 1) := by decide +kernel
theorem dX1_signAt_27 : decode cX1_signAt 27 = .ok (.goto 4, 3) := by decide +kernel
theorem dX1_signAt_30 : decode cX1_signAt 30 = .ok (.iconst (-1), 1) := by decide +kernel
theorem dX1_signAt_31 : decode cX1_signAt 31 = .ok (.ireturn, 1) := by decide +kernel
theorem dX1_digitsAt_0 : decode cX1_digitsAt 0 = .ok (.iconst 0, 1) := by decide +kernel
theorem dX1_digitsAt_1 : decode cX1_digitsAt 1 = .ok (.istore_n 3, 1) := by decide +kernel
theorem dX1_digitsAt_2 : decode cX1_digitsAt 2 = .ok (.iload_n 3, 1) := by decide +kernel
theorem dX1_digitsAt_3 : decode cX1_digitsAt 3 = .ok (.iload_n 2, 1) := by decide +kernel
theorem dX1_digitsAt_4 : decode cX1_digitsAt 4 = .ok (.if_icmp .ge 33, 3) := by decide +kernel
theorem dX1_digitsAt_7 : decode cX1_digitsAt 7 = .ok (.aload_n 0, 1) := by decide +kernel
theorem dX1_digitsAt_8 : decode cX1_digitsAt 8 = .ok (.iload_n 1, 1) := by decide +kernel
theorem dX1_digitsAt_9 : decode cX1_digitsAt 9 = .ok (.iload_n 3, 1) := by decide +kernel
theorem dX1_digitsAt_10 : decode cX1_digitsAt 10 = .ok (.iadd, 1) := by decide +kernel
theorem dX1_digitsAt_11 : decode cX1_digitsAt 11 = .ok (.invokevirtual 26, 3) := by decide +kernel
theorem dX1_digitsAt_14 : decode cX1_digitsAt 14 = .ok (.bipush 48, 2) := by decide +kernel
theorem dX1_digitsAt_16 : decode cX1_digitsAt 16 = .ok (.if_icmp .lt 21, 3) := by decide +kernel
theorem dX1_digitsAt_19 : decode cX1_digitsAt 19 = .ok (.aload_n 0, 1) := by decide +kernel
theorem dX1_digitsAt_20 : decode cX1_digitsAt 20 = .ok (.iload_n 1, 1) := by decide +kernel
theorem dX1_digitsAt_21 : decode cX1_digitsAt 21 = .ok (.iload_n 3, 1) := by decide +kernel
theorem dX1_digitsAt_22 : decode cX1_digitsAt 22 = .ok (.iadd, 1) := by decide +kernel
theorem dX1_digitsAt_23 : decode cX1_digitsAt 23 = .ok (.invokevirtual 26, 3) := by decide +kernel
theorem dX1_digitsAt_26 : decode cX1_digitsAt 26 = .ok (.bipush 57, 2) := by decide +kernel
theorem dX1_digitsAt_28 : decode cX1_digitsAt 28 = .ok (.if_icmp .gt 9, 3) := by decide +kernel
theorem dX1_digitsAt_31 : decode cX1_digitsAt 31 = .ok (.iinc 3 1, 3) := by decide +kernel
theorem dX1_digitsAt_34 : decode cX1_digitsAt 34 = .ok (.goto (-32), 3) := by decide +kernel
theorem dX1_digitsAt_37 : decode cX1_digitsAt 37 = .ok (.iload_n 3, 1) := by decide +kernel
theorem dX1_digitsAt_38 : decode cX1_digitsAt 38 = .ok (.ireturn, 1) := by decide +kernel
theorem dX1_valueOf_0 : decode cX1_valueOf 0 = .ok (.iconst 0, 1) := by decide +kernel
theorem dX1_valueOf_1 : decode cX1_valueOf 1 = .ok (.istore_n 3, 1) := by decide +kernel
theorem dX1_valueOf_2 : decode cX1_valueOf 2 = .ok (.iconst 0, 1) := by decide +kernel
theorem dX1_valueOf_3 : decode cX1_valueOf 3 = .ok (.istore 4, 2) := by decide +kernel
theorem dX1_valueOf_5 : decode cX1_valueOf 5 = .ok (.iload 4, 2) := by decide +kernel
theorem dX1_valueOf_7 : decode cX1_valueOf 7 = .ok (.iload_n 2, 1) := by decide +kernel
theorem dX1_valueOf_8 : decode cX1_valueOf 8 = .ok (.if_icmp .ge 26, 3) := by decide +kernel
theorem dX1_valueOf_11 : decode cX1_valueOf 11 = .ok (.bipush 10, 2) := by decide +kernel
theorem dX1_valueOf_13 : decode cX1_valueOf 13 = .ok (.iload_n 3, 1) := by decide +kernel
theorem dX1_valueOf_14 : decode cX1_valueOf 14 = .ok (.imul, 1) := by decide +kernel
theorem dX1_valueOf_15 : decode cX1_valueOf 15 = .ok (.aload_n 0, 1) := by decide +kernel
theorem dX1_valueOf_16 : decode cX1_valueOf 16 = .ok (.iload_n 1, 1) := by decide +kernel
theorem dX1_valueOf_17 : decode cX1_valueOf 17 = .ok (.iload 4, 2) := by decide +kernel
theorem dX1_valueOf_19 : decode cX1_valueOf 19 = .ok (.iadd, 1) := by decide +kernel
theorem dX1_valueOf_20 : decode cX1_valueOf 20 = .ok (.invokevirtual 26, 3) := by decide +kernel
theorem dX1_valueOf_23 : decode cX1_valueOf 23 = .ok (.iadd, 1) := by decide +kernel
theorem dX1_valueOf_24 : decode cX1_valueOf 24 = .ok (.bipush 48, 2) := by decide +kernel
theorem dX1_valueOf_26 : decode cX1_valueOf 26 = .ok (.isub, 1) := by decide +kernel
theorem dX1_valueOf_27 : decode cX1_valueOf 27 = .ok (.istore_n 3, 1) := by decide +kernel
theorem dX1_valueOf_28 : decode cX1_valueOf 28 = .ok (.iinc 4 1, 3) := by decide +kernel
theorem dX1_valueOf_31 : decode cX1_valueOf 31 = .ok (.goto (-26), 3) := by decide +kernel
theorem dX1_valueOf_34 : decode cX1_valueOf 34 = .ok (.iload_n 3, 1) := by decide +kernel
theorem dX1_valueOf_35 : decode cX1_valueOf 35 = .ok (.ireturn, 1) := by decide +kernel
theorem dX2_init_0 : decode cX2_init 0 = .ok (.aload_n 0, 1) := by decide +kernel
theorem dX2_init_1 : decode cX2_init 1 = .ok (.invokespecial 3, 3) := by decide +kernel
theorem dX2_init_4 : decode cX2_init 4 = .ok (.aload_n 0, 1) := by decide +kernel
theorem dX2_init_5 : decode cX2_init 5 = .ok (.bipush 6, 2) := by decide +kernel
theorem dX2_init_7 : decode cX2_init 7 = .ok (.anewarray 9, 3) := by decide +kernel
theorem dX2_init_10 : decode cX2_init 10 = .ok (.putfield 11, 3) := by decide +kernel
theorem dX2_init_13 : decode cX2_init 13 = .ok (.aload_n 0, 1) := by decide +kernel
theorem dX2_init_14 : decode cX2_init 14 = .ok (.bipush 7, 2) := by decide +kernel
theorem dX2_init_16 : decode cX2_init 16 = .ok (.newarray .int, 2) := by decide +kernel
theorem dX2_init_18 : decode cX2_init 18 = .ok (.putfield 17, 3) := by decide +kernel
theorem dX2_init_21 : decode cX2_init 21 = .ok (.aload_n 0, 1) := by decide +kernel
theorem dX2_init_22 : decode cX2_init 22 = .ok (.bipush 7, 2) := by decide +kernel
theorem dX2_init_24 : decode cX2_init 24 = .ok (.newarray .int, 2) := by decide +kernel
theorem dX2_init_26 : decode cX2_init 26 = .ok (.putfield 21, 3) := by decide +kernel
theorem dX2_init_29 : decode cX2_init 29 = .ok (.aload_n 0, 1) := by decide +kernel
theorem dX2_init_30 : decode cX2_init 30 = .ok (.aload_n 1, 1) := by decide +kernel
theorem dX2_init_31 : decode cX2_init 31 = .ok (.putfield 24, 3) := by decide +kernel
theorem dX2_init_34 : decode cX2_init 34 = .ok (.iconst 0, 1) := by decide +kernel
theorem dX2_init_35 : decode cX2_init 35 = .ok (.istore_n 2, 1) := by decide +kernel
theorem dX2_init_36 : decode cX2_init 36 = .ok (.iload_n 2, 1) := by decide +kernel
theorem dX2_init_37 : decode cX2_init 37 = .ok (.bipush 6, 2) := by decide +kernel
theorem dX2_init_39 : decode cX2_init 39 = .ok (.if_icmp .ge 22, 3) := by decide +kernel
theorem dX2_init_42 : decode cX2_init 42 = .ok (.aload_n 0, 1) := by decide +kernel
theorem dX2_init_43 : decode cX2_init 43 = .ok (.getfield 11, 3) := by decide +kernel
theorem dX2_init_46 : decode cX2_init 46 = .ok (.iload_n 2, 1) := by decide +kernel
theorem dX2_init_47 : decode cX2_init 47 = .ok (.new 9, 3) := by decide +kernel
theorem dX2_init_50 : decode cX2_init 50 = .ok (.dup, 1) := by decide +kernel
theorem dX2_init_51 : decode cX2_init 51 = .ok (.invokespecial 28, 3) := by decide +kernel
theorem dX2_init_54 : decode cX2_init 54 = .ok (.aastore, 1) := by decide +kernel
theorem dX2_init_55 : decode cX2_init 55 = .ok (.iinc 2 1, 3) := by decide +kernel
theorem dX2_init_58 : decode cX2_init 58 = .ok (.goto (-22), 3) := by decide +kernel
theorem dX2_init_61 : decode cX2_init 61 = .ok (.return_, 1) := by decide +kernel
theorem dX2_recall_0 : decode cX2_recall 0 = .ok (.aload_n 0, 1) := by decide +kernel
theorem dX2_recall_1 : decode cX2_recall 1 = .ok (.aload_n 0, 1) := by decide +kernel
theorem dX2_recall_2 : decode cX2_recall 2 = .ok (.getfield 24, 3) := by decide +kernel
theorem dX2_recall_5 : decode cX2_recall 5 = .ok (.getfield 29, 3) := by decide +kernel
theorem dX2_recall_8 : decode cX2_recall 8 = .ok (.putfield 35, 3) := by decide +kernel
theorem dX2_recall_11 : decode cX2_recall 11 = .ok (.aload_n 0, 1) := by decide +kernel
theorem dX2_recall_12 : decode cX2_recall 12 = .ok (.bipush (-9), 2) := by decide +kernel
theorem dX2_recall_14 : decode cX2_recall 14 = .ok (.putfield 38, 3) := by decide +kernel
theorem dX2_recall_17 : decode cX2_recall 17 = .ok (.iconst 0, 1) := by decide +kernel
theorem dX2_recall_18 : decode cX2_recall 18 = .ok (.istore_n 1, 1) := by decide +kernel
theorem dX2_recall_19 : decode cX2_recall 19 = .ok (.iload_n 1, 1) := by decide +kernel
theorem dX2_recall_20 : decode cX2_recall 20 = .ok (.aload_n 0, 1) := by decide +kernel
theorem dX2_recall_21 : decode cX2_recall 21 = .ok (.getfield 24, 3) := by decide +kernel
theorem dX2_recall_24 : decode cX2_recall 24 = .ok (.getfield 41, 3) := by decide +kernel
theorem dX2_recall_27 : decode cX2_recall 27 = .ok (.if_icmp .ge 15, 3) := by decide +kernel
theorem dX2_recall_30 : decode cX2_recall 30 = .ok (.aload_n 0, 1) := by decide +kernel
theorem dX2_recall_31 : decode cX2_recall 31 = .ok (.iload_n 1, 1) := by decide +kernel
theorem dX2_recall_32 : decode cX2_recall 32 = .ok (.iload_n 1, 1) := by decide +kernel
theorem dX2_recall_33 : decode cX2_recall 33 = .ok (.invokevirtual 44, 3) := by decide +kernel
theorem dX2_recall_36 : decode cX2_recall 36 = .ok (.iinc 1 1, 3) := by decide +kernel
theorem dX2_recall_39 : decode cX2_recall 39 = .ok (.goto (-20), 3) := by decide +kernel
theorem dX2_recall_42 : decode cX2_recall 42 = .ok (.return_, 1) := by decide +kernel
theorem dX2_leadFrom_0 : decode cX2_leadFrom 0 = .ok (.aload_n 0, 1) := by decide +kernel
theorem dX2_leadFrom_1 : decode cX2_leadFrom 1 = .ok (.getfield 24, 3) := by decide +kernel
theorem dX2_leadFrom_4 : decode cX2_leadFrom 4 = .ok (.getfield 48, 3) := by decide +kernel
theorem dX2_leadFrom_7 : decode cX2_leadFrom 7 = .ok (.iload_n 2, 1) := by decide +kernel
theorem dX2_leadFrom_8 : decode cX2_leadFrom 8 = .ok (.aaload, 1) := by decide +kernel
theorem dX2_leadFrom_9 : decode cX2_leadFrom 9 = .ok (.astore_n 3, 1) := by decide +kernel
theorem dX2_leadFrom_10 : decode cX2_leadFrom 10 = .ok (.aload_n 0, 1) := by decide +kernel
theorem dX2_leadFrom_11 : decode cX2_leadFrom 11 = .ok (.getfield 11, 3) := by decide +kernel
theorem dX2_leadFrom_14 : decode cX2_leadFrom 14 = .ok (.iload_n 1, 1) := by decide +kernel
theorem dX2_leadFrom_15 : decode cX2_leadFrom 15 = .ok (.aaload, 1) := by decide +kernel
theorem dX2_leadFrom_16 : decode cX2_leadFrom 16 = .ok (.aload_n 0, 1) := by decide +kernel
theorem dX2_leadFrom_17 : decode cX2_leadFrom 17 = .ok (.getfield 24, 3) := by decide +kernel
theorem dX2_leadFrom_20 : decode cX2_leadFrom 20 = .ok (.aload_n 3, 1) := by decide +kernel
theorem dX2_leadFrom_21 : decode cX2_leadFrom 21 = .ok (.getfield 52, 3) := by decide +kernel
theorem dX2_leadFrom_24 : decode cX2_leadFrom 24 = .ok (.aload_n 3, 1) := by decide +kernel
theorem dX2_leadFrom_25 : decode cX2_leadFrom 25 = .ok (.getfield 57, 3) := by decide +kernel
theorem dX2_leadFrom_28 : decode cX2_leadFrom 28 = .ok (.aload_n 0, 1) := by decide +kernel
theorem dX2_leadFrom_29 : decode cX2_leadFrom 29 = .ok (.getfield 24, 3) := by decide +kernel
theorem dX2_leadFrom_32 : decode cX2_leadFrom 32 = .ok (.getfield 48, 3) := by decide +kernel
theorem dX2_leadFrom_35 : decode cX2_leadFrom 35 = .ok (.iload_n 1, 1) := by decide +kernel
theorem dX2_leadFrom_36 : decode cX2_leadFrom 36 = .ok (.aaload, 1) := by decide +kernel
theorem dX2_leadFrom_37 : decode cX2_leadFrom 37 = .ok (.getfield 60, 3) := by decide +kernel
theorem dX2_leadFrom_40 : decode cX2_leadFrom 40 = .ok (.invokevirtual 63, 3) := by decide +kernel
theorem dX2_leadFrom_43 : decode cX2_leadFrom 43 = .ok (.return_, 1) := by decide +kernel
theorem dX2_lets_0 : decode cX2_lets 0 = .ok (.aload_n 0, 1) := by decide +kernel
theorem dX2_lets_1 : decode cX2_lets 1 = .ok (.getfield 24, 3) := by decide +kernel
theorem dX2_lets_4 : decode cX2_lets 4 = .ok (.iload_n 1, 1) := by decide +kernel
theorem dX2_lets_5 : decode cX2_lets 5 = .ok (.iload_n 2, 1) := by decide +kernel
theorem dX2_lets_6 : decode cX2_lets 6 = .ok (.invokevirtual 67, 3) := by decide +kernel
theorem dX2_lets_9 : decode cX2_lets 9 = .ok (.ifCond .eq 34, 3) := by decide +kernel
theorem dX2_lets_12 : decode cX2_lets 12 = .ok (.iload_n 1, 1) := by decide +kernel
theorem dX2_lets_13 : decode cX2_lets 13 = .ok (.aload_n 0, 1) := by decide +kernel
theorem dX2_lets_14 : decode cX2_lets 14 = .ok (.getfield 38, 3) := by decide +kernel
theorem dX2_lets_17 : decode cX2_lets 17 = .ok (.if_icmp .eq 22, 3) := by decide +kernel
theorem dX2_lets_20 : decode cX2_lets 20 = .ok (.aload_n 0, 1) := by decide +kernel
theorem dX2_lets_21 : decode cX2_lets 21 = .ok (.getfield 24, 3) := by decide +kernel
theorem dX2_lets_24 : decode cX2_lets 24 = .ok (.aload_n 0, 1) := by decide +kernel
theorem dX2_lets_25 : decode cX2_lets 25 = .ok (.getfield 35, 3) := by decide +kernel
theorem dX2_lets_28 : decode cX2_lets 28 = .ok (.iload_n 1, 1) := by decide +kernel
theorem dX2_lets_29 : decode cX2_lets 29 = .ok (.iload_n 2, 1) := by decide +kernel
theorem dX2_lets_30 : decode cX2_lets 30 = .ok (.iload_n 3, 1) := by decide +kernel
theorem dX2_lets_31 : decode cX2_lets 31 = .ok (.bipush (-9), 2) := by decide +kernel
theorem dX2_lets_33 : decode cX2_lets 33 = .ok (.invokevirtual 71, 3) := by decide +kernel
theorem dX2_lets_36 : decode cX2_lets 36 = .ok (.ifCond .eq 7, 3) := by decide +kernel
theorem dX2_lets_39 : decode cX2_lets 39 = .ok (.iconst 1, 1) := by decide +kernel
theorem dX2_lets_40 : decode cX2_lets 40 = .ok (.goto 4, 3) := by decide +kernel
theorem dX2_lets_43 : decode cX2_lets 43 = .ok (.iconst 0, 1) := by decide +kernel
theorem dX2_lets_44 : decode cX2_lets 44 = .ok (.ireturn, 1) := by decide +kernel
theorem dX2_soonestOf_0 : decode cX2_soonestOf 0 = .ok (.aload_n 0, 1) := by decide +kernel
theorem dX2_soonestOf_1 : decode cX2_soonestOf 1 = .ok (.getfield 24, 3) := by decide +kernel
theorem dX2_soonestOf_4 : decode cX2_soonestOf 4 = .ok (.getfield 75, 3) := by decide +kernel
theorem dX2_soonestOf_7 : decode cX2_soonestOf 7 = .ok (.iload_n 1, 1) := by decide +kernel
theorem dX2_soonestOf_8 : decode cX2_soonestOf 8 = .ok (.aaload, 1) := by decide +kernel
theorem dX2_soonestOf_9 : decode cX2_soonestOf 9 = .ok (.astore_n 2, 1) := by decide +kernel
theorem dX2_soonestOf_10 : decode cX2_soonestOf 10 = .ok (.aload_n 0, 1) := by decide +kernel
theorem dX2_soonestOf_11 : decode cX2_soonestOf 11 = .ok (.getfield 17, 3) := by decide +kernel
theorem dX2_soonestOf_14 : decode cX2_soonestOf 14 = .ok (.ldc 79, 2) := by decide +kernel
theorem dX2_soonestOf_16 : decode cX2_soonestOf 16 = .ok (.invokestatic 80, 3) := by decide +kernel
theorem dX2_soonestOf_19 : decode cX2_soonestOf 19 = .ok (.aload_n 0, 1) := by decide +kernel
theorem dX2_soonestOf_20 : decode cX2_soonestOf 20 = .ok (.getfield 17, 3) := by decide +kernel
theorem dX2_soonestOf_23 : decode cX2_soonestOf 23 = .ok (.aload_n 2, 1) := by decide +kernel
theorem dX2_soonestOf_24 : decode cX2_soonestOf 24 = .ok (.getfield 86, 3) := by decide +kernel
theorem dX2_soonestOf_27 : decode cX2_soonestOf 27 = .ok (.iconst 0, 1) := by decide +kernel
theorem dX2_soonestOf_28 : decode cX2_soonestOf 28 = .ok (.iastore, 1) := by decide +kernel
theorem dX2_soonestOf_29 : decode cX2_soonestOf 29 = .ok (.iconst 1, 1) := by decide +kernel
theorem dX2_soonestOf_30 : decode cX2_soonestOf 30 = .ok (.istore_n 3, 1) := by decide +kernel
theorem dX2_soonestOf_31 : decode cX2_soonestOf 31 = .ok (.iconst 0, 1) := by decide +kernel
theorem dX2_soonestOf_32 : decode cX2_soonestOf 32 = .ok (.istore 4, 2) := by decide +kernel
theorem dX2_soonestOf_34 : decode cX2_soonestOf 34 = .ok (.iload 4, 2) := by decide +kernel
theorem dX2_soonestOf_36 : decode cX2_soonestOf 36 = .ok (.bipush 7, 2) := by decide +kernel
theorem dX2_soonestOf_38 : decode cX2_soonestOf 38 = .ok (.if_icmp .gt 48, 3) := by decide +kernel
theorem dX2_soonestOf_41 : decode cX2_soonestOf 41 = .ok (.iload_n 3, 1) := by decide +kernel
theorem dX2_soonestOf_42 : decode cX2_soonestOf 42 = .ok (.ifCond .eq 44, 3) := by decide +kernel
theorem dX2_soonestOf_45 : decode cX2_soonestOf 45 = .ok (.iconst 0, 1) := by decide +kernel
theorem dX2_soonestOf_46 : decode cX2_soonestOf 46 = .ok (.istore_n 3, 1) := by decide +kernel
theorem dX2_soonestOf_47 : decode cX2_soonestOf 47 = .ok (.iconst 0, 1) := by decide +kernel
theorem dX2_soonestOf_48 : decode cX2_soonestOf 48 = .ok (.istore 5, 2) := by decide +kernel
theorem dX2_soonestOf_50 : decode cX2_soonestOf 50 = .ok (.iload 5, 2) := by decide +kernel
theorem dX2_soonestOf_52 : decode cX2_soonestOf 52 = .ok (.aload_n 0, 1) := by decide +kernel
theorem dX2_soonestOf_53 : decode cX2_soonestOf 53 = .ok (.getfield 24, 3) := by decide +kernel
theorem dX2_soonestOf_56 : decode cX2_soonestOf 56 = .ok (.getfield 41, 3) := by decide +kernel
theorem dX2_soonestOf_59 : decode cX2_soonestOf 59 = .ok (.if_icmp .ge 21, 3) := by decide +kernel
theorem dX2_soonestOf_62 : decode cX2_soonestOf 62 = .ok (.aload_n 0, 1) := by decide +kernel
theorem dX2_soonestOf_63 : decode cX2_soonestOf 63 = .ok (.iload 5, 2) := by decide +kernel
theorem dX2_soonestOf_65 : decode cX2_soonestOf 65 = .ok (.iload_n 1, 1) := by decide +kernel
theorem dX2_soonestOf_66 : decode cX2_soonestOf 66 = .ok (.invokevirtual 89, 3) := by decide +kernel
theorem dX2_soonestOf_69 : decode cX2_soonestOf 69 = .ok (.ifCond .eq 5, 3) := by decide +kernel
theorem dX2_soonestOf_72 : decode cX2_soonestOf 72 = .ok (.iconst 1, 1) := by decide +kernel
theorem dX2_soonestOf_73 : decode cX2_soonestOf 73 = .ok (.istore_n 3, 1) := by decide +kernel
theorem dX2_soonestOf_74 : decode cX2_soonestOf 74 = .ok (.iinc 5 1, 3) := by decide +kernel
theorem dX2_soonestOf_77 : decode cX2_soonestOf 77 = .ok (.goto (-27), 3) := by decide +kernel
theorem dX2_soonestOf_80 : decode cX2_soonestOf 80 = .ok (.iinc 4 1, 3) := by decide +kernel
theorem dX2_soonestOf_83 : decode cX2_soonestOf 83 = .ok (.goto (-49), 3) := by decide +kernel
theorem dX2_soonestOf_86 : decode cX2_soonestOf 86 = .ok (.aload_n 0, 1) := by decide +kernel
theorem dX2_soonestOf_87 : decode cX2_soonestOf 87 = .ok (.getfield 17, 3) := by decide +kernel
theorem dX2_soonestOf_90 : decode cX2_soonestOf 90 = .ok (.aload_n 2, 1) := by decide +kernel
theorem dX2_soonestOf_91 : decode cX2_soonestOf 91 = .ok (.getfield 92, 3) := by decide +kernel
theorem dX2_soonestOf_94 : decode cX2_soonestOf 94 = .ok (.iaload, 1) := by decide +kernel
theorem dX2_soonestOf_95 : decode cX2_soonestOf 95 = .ok (.ldc 79, 2) := by decide +kernel
theorem dX2_soonestOf_97 : decode cX2_soonestOf 97 = .ok (.if_icmp .lt 8, 3) := by decide +kernel
theorem dX2_soonestOf_100 : decode cX2_soonestOf 100 = .ok (.bipush (-9), 2) := by decide +kernel
theorem dX2_soonestOf_102 : decode cX2_soonestOf 102 = .ok (.goto 12, 3) := by decide +kernel
theorem dX2_soonestOf_105 : decode cX2_soonestOf 105 = .ok (.aload_n 0, 1) := by decide +kernel
theorem dX2_soonestOf_106 : decode cX2_soonestOf 106 = .ok (.getfield 17, 3) := by decide +kernel
theorem dX2_soonestOf_109 : decode cX2_soonestOf 109 = .ok (.aload_n 2, 1) := by decide +kernel
theorem dX2_soonestOf_110 : decode cX2_soonestOf 110 = .ok (.getfield 92, 3) := by decide +kernel
theorem dX2_soonestOf_113 : decode cX2_soonestOf 113 = .ok (.iaload, 1) := by decide +kernel
theorem dX2_soonestOf_114 : decode cX2_soonestOf 114 = .ok (.ireturn, 1) := by decide +kernel
theorem dX2_carryAlong_0 : decode cX2_carryAlong 0 = .ok (.aload_n 0, 1) := by decide +kernel
theorem dX2_carryAlong_1 : decode cX2_carryAlong 1 = .ok (.getfield 11, 3) := by decide +kernel
theorem dX2_carryAlong_4 : decode cX2_carryAlong 4 = .ok (.iload_n 1, 1) := by decide +kernel
theorem dX2_carryAlong_5 : decode cX2_carryAlong 5 = .ok (.aaload, 1) := by decide +kernel
theorem dX2_carryAlong_6 : decode cX2_carryAlong 6 = .ok (.astore_n 3, 1) := by decide +kernel
theorem dX2_carryAlong_7 : decode cX2_carryAlong 7 = .ok (.iconst 0, 1) := by decide +kernel
theorem dX2_carryAlong_8 : decode cX2_carryAlong 8 = .ok (.istore 4, 2) := by decide +kernel
theorem dX2_carryAlong_10 : decode cX2_carryAlong 10 = .ok (.iconst 0, 1) := by decide +kernel
theorem dX2_carryAlong_11 : decode cX2_carryAlong 11 = .ok (.istore 5, 2) := by decide +kernel
theorem dX2_carryAlong_13 : decode cX2_carryAlong 13 = .ok (.iconst 0, 1) := by decide +kernel
theorem dX2_carryAlong_14 : decode cX2_carryAlong 14 = .ok (.istore 6, 2) := by decide +kernel
theorem dX2_carryAlong_16 : decode cX2_carryAlong 16 = .ok (.iload 6, 2) := by decide +kernel
theorem dX2_carryAlong_18 : decode cX2_carryAlong 18 = .ok (.aload_n 3, 1) := by decide +kernel
theorem dX2_carryAlong_19 : decode cX2_carryAlong 19 = .ok (.getfield 93, 3) := by decide +kernel
theorem dX2_carryAlong_22 : decode cX2_carryAlong 22 = .ok (.if_icmp .ge 102, 3) := by decide +kernel
theorem dX2_carryAlong_25 : decode cX2_carryAlong 25 = .ok (.aload_n 3, 1) := by decide +kernel
theorem dX2_carryAlong_26 : decode cX2_carryAlong 26 = .ok (.getfield 96, 3) := by decide +kernel
theorem dX2_carryAlong_29 : decode cX2_carryAlong 29 = .ok (.iload 6, 2) := by decide +kernel
theorem dX2_carryAlong_31 : decode cX2_carryAlong 31 = .ok (.iaload, 1) := by decide +kernel
theorem dX2_carryAlong_32 : decode cX2_carryAlong 32 = .ok (.istore 7, 2) := by decide +kernel
theorem dX2_carryAlong_34 : decode cX2_carryAlong 34 = .ok (.iload 4, 2) := by decide +kernel
theorem dX2_carryAlong_36 : decode cX2_carryAlong 36 = .ok (.ifCond .eq 37, 3) := by decide +kernel
theorem dX2_carryAlong_39 : decode cX2_carryAlong 39 = .ok (.aload_n 3, 1) := by decide +kernel
theorem dX2_carryAlong_40 : decode cX2_carryAlong 40 = .ok (.getfield 99, 3) := by decide +kernel
theorem dX2_carryAlong_43 : decode cX2_carryAlong 43 = .ok (.iload 6, 2) := by decide +kernel
theorem dX2_carryAlong_45 : decode cX2_carryAlong 45 = .ok (.iaload, 1) := by decide +kernel
theorem dX2_carryAlong_46 : decode cX2_carryAlong 46 = .ok (.aload_n 0, 1) := by decide +kernel
theorem dX2_carryAlong_47 : decode cX2_carryAlong 47 = .ok (.getfield 17, 3) := by decide +kernel
theorem dX2_carryAlong_50 : decode cX2_carryAlong 50 = .ok (.iload 7, 2) := by decide +kernel
theorem dX2_carryAlong_52 : decode cX2_carryAlong 52 = .ok (.iaload, 1) := by decide +kernel
theorem dX2_carryAlong_53 : decode cX2_carryAlong 53 = .ok (.if_icmp .ge 20, 3) := by decide +kernel
theorem dX2_carryAlong_56 : decode cX2_carryAlong 56 = .ok (.aload_n 0, 1) := by decide +kernel
theorem dX2_carryAlong_57 : decode cX2_carryAlong 57 = .ok (.getfield 17, 3) := by decide +kernel
theorem dX2_carryAlong_60 : decode cX2_carryAlong 60 = .ok (.iload 7, 2) := by decide +kernel
theorem dX2_carryAlong_62 : decode cX2_carryAlong 62 = .ok (.aload_n 3, 1) := by decide +kernel
theorem dX2_carryAlong_63 : decode cX2_carryAlong 63 = .ok (.getfield 99, 3) := by decide +kernel
theorem dX2_carryAlong_66 : decode cX2_carryAlong 66 = .ok (.iload 6, 2) := by decide +kernel
theorem dX2_carryAlong_68 : decode cX2_carryAlong 68 = .ok (.iaload, 1) := by decide +kernel
theorem dX2_carryAlong_69 : decode cX2_carryAlong 69 = .ok (.iastore, 1) := by decide +kernel
theorem dX2_carryAlong_70 : decode cX2_carryAlong 70 = .ok (.iconst 1, 1) := by decide +kernel
theorem dX2_carryAlong_71 : decode cX2_carryAlong 71 = .ok (.istore 5, 2) := by decide +kernel
theorem dX2_carryAlong_73 : decode cX2_carryAlong 73 = .ok (.iload 4, 2) := by decide +kernel
theorem dX2_carryAlong_75 : decode cX2_carryAlong 75 = .ok (.ifCond .ne 36, 3) := by decide +kernel
theorem dX2_carryAlong_78 : decode cX2_carryAlong 78 = .ok (.aload_n 0, 1) := by decide +kernel
theorem dX2_carryAlong_79 : decode cX2_carryAlong 79 = .ok (.getfield 17, 3) := by decide +kernel
theorem dX2_carryAlong_82 : decode cX2_carryAlong 82 = .ok (.iload 7, 2) := by decide +kernel
theorem dX2_carryAlong_84 : decode cX2_carryAlong 84 = .ok (.iaload, 1) := by decide +kernel
theorem dX2_carryAlong_85 : decode cX2_carryAlong 85 = .ok (.aload_n 3, 1) := by decide +kernel
theorem dX2_carryAlong_86 : decode cX2_carryAlong 86 = .ok (.getfield 99, 3) := by decide +kernel
theorem dX2_carryAlong_89 : decode cX2_carryAlong 89 = .ok (.iload 6, 2) := by decide +kernel
theorem dX2_carryAlong_91 : decode cX2_carryAlong 91 = .ok (.iaload, 1) := by decide +kernel
theorem dX2_carryAlong_92 : decode cX2_carryAlong 92 = .ok (.if_icmp .gt 23, 3) := by decide +kernel
theorem dX2_carryAlong_95 : decode cX2_carryAlong 95 = .ok (.aload_n 0, 1) := by decide +kernel
theorem dX2_carryAlong_96 : decode cX2_carryAlong 96 = .ok (.iload_n 1, 1) := by decide +kernel
theorem dX2_carryAlong_97 : decode cX2_carryAlong 97 = .ok (.iload_n 2, 1) := by decide +kernel
theorem dX2_carryAlong_98 : decode cX2_carryAlong 98 = .ok (.aload_n 3, 1) := by decide +kernel
theorem dX2_carryAlong_99 : decode cX2_carryAlong 99 = .ok (.getfield 99, 3) := by decide +kernel
theorem dX2_carryAlong_102 : decode cX2_carryAlong 102 = .ok (.iload 6, 2) := by decide +kernel
theorem dX2_carryAlong_104 : decode cX2_carryAlong 104 = .ok (.iaload, 1) := by decide +kernel
theorem dX2_carryAlong_105 : decode cX2_carryAlong 105 = .ok (.invokevirtual 102, 3) := by decide +kernel
theorem dX2_carryAlong_108 : decode cX2_carryAlong 108 = .ok (.ifCond .eq 7, 3) := by decide +kernel
theorem dX2_carryAlong_111 : decode cX2_carryAlong 111 = .ok (.iconst 1, 1) := by decide +kernel
theorem dX2_carryAlong_112 : decode cX2_carryAlong 112 = .ok (.goto 4, 3) := by decide +kernel
theorem dX2_carryAlong_115 : decode cX2_carryAlong 115 = .ok (.iconst 0, 1) := by decide +kernel
theorem dX2_carryAlong_116 : decode cX2_carryAlong 116 = .ok (.istore 4, 2) := by decide +kernel
theorem dX2_carryAlong_118 : decode cX2_carryAlong 118 = .ok (.iinc 6 1, 3) := by decide +kernel
theorem dX2_carryAlong_121 : decode cX2_carryAlong 121 = .ok (.goto (-105), 3) := by decide +kernel
theorem dX2_carryAlong_124 : decode cX2_carryAlong 124 = .ok (.iload 5, 2) := by decide +kernel
theorem dX2_carryAlong_126 : decode cX2_carryAlong 126 = .ok (.ireturn, 1) := by decide +kernel
theorem dX2_traceBack_0 : decode cX2_traceBack 0 = .ok (.aload_n 0, 1) := by decide +kernel
theorem dX2_traceBack_1 : decode cX2_traceBack 1 = .ok (.getfield 24, 3) := by decide +kernel
theorem dX2_traceBack_4 : decode cX2_traceBack 4 = .ok (.getfield 75, 3) := by decide +kernel
theorem dX2_traceBack_7 : decode cX2_traceBack 7 = .ok (.iload_n 1, 1) := by decide +kernel
theorem dX2_traceBack_8 : decode cX2_traceBack 8 = .ok (.aaload, 1) := by decide +kernel
theorem dX2_traceBack_9 : decode cX2_traceBack 9 = .ok (.astore_n 2, 1) := by decide +kernel
theorem dX2_traceBack_10 : decode cX2_traceBack 10 = .ok (.aload_n 2, 1) := by decide +kernel
theorem dX2_traceBack_11 : decode cX2_traceBack 11 = .ok (.getfield 92, 3) := by decide +kernel
theorem dX2_traceBack_14 : decode cX2_traceBack 14 = .ok (.istore_n 3, 1) := by decide +kernel
theorem dX2_traceBack_15 : decode cX2_traceBack 15 = .ok (.aload_n 0, 1) := by decide +kernel
theorem dX2_traceBack_16 : decode cX2_traceBack 16 = .ok (.iconst 0, 1) := by decide +kernel
theorem dX2_traceBack_17 : decode cX2_traceBack 17 = .ok (.putfield 106, 3) := by decide +kernel
theorem dX2_traceBack_20 : decode cX2_traceBack 20 = .ok (.iconst 0, 1) := by decide +kernel
theorem dX2_traceBack_21 : decode cX2_traceBack 21 = .ok (.istore 4, 2) := by decide +kernel
theorem dX2_traceBack_23 : decode cX2_traceBack 23 = .ok (.iload 4, 2) := by decide +kernel
theorem dX2_traceBack_25 : decode cX2_traceBack 25 = .ok (.bipush 7, 2) := by decide +kernel
theorem dX2_traceBack_27 : decode cX2_traceBack 27 = .ok (.if_icmp .ge 24, 3) := by decide +kernel
theorem dX2_traceBack_30 : decode cX2_traceBack 30 = .ok (.iload_n 3, 1) := by decide +kernel
theorem dX2_traceBack_31 : decode cX2_traceBack 31 = .ok (.aload_n 2, 1) := by decide +kernel
theorem dX2_traceBack_32 : decode cX2_traceBack 32 = .ok (.getfield 86, 3) := by decide +kernel
theorem dX2_traceBack_35 : decode cX2_traceBack 35 = .ok (.if_icmp .eq 16, 3) := by decide +kernel
theorem dX2_traceBack_38 : decode cX2_traceBack 38 = .ok (.aload_n 0, 1) := by decide +kernel
theorem dX2_traceBack_39 : decode cX2_traceBack 39 = .ok (.iload_n 1, 1) := by decide +kernel
theorem dX2_traceBack_40 : decode cX2_traceBack 40 = .ok (.iload_n 3, 1) := by decide +kernel
theorem dX2_traceBack_41 : decode cX2_traceBack 41 = .ok (.invokevirtual 109, 3) := by decide +kernel
theorem dX2_traceBack_44 : decode cX2_traceBack 44 = .ok (.istore_n 3, 1) := by decide +kernel
theorem dX2_traceBack_45 : decode cX2_traceBack 45 = .ok (.iinc 4 1, 3) := by decide +kernel
theorem dX2_traceBack_48 : decode cX2_traceBack 48 = .ok (.goto (-25), 3) := by decide +kernel
theorem dX2_traceBack_51 : decode cX2_traceBack 51 = .ok (.return_, 1) := by decide +kernel
theorem dX2_traceStep_0 : decode cX2_traceStep 0 = .ok (.iconst 0, 1) := by decide +kernel
theorem dX2_traceStep_1 : decode cX2_traceStep 1 = .ok (.istore_n 3, 1) := by decide +kernel
theorem dX2_traceStep_2 : decode cX2_traceStep 2 = .ok (.iload_n 3, 1) := by decide +kernel
theorem dX2_traceStep_3 : decode cX2_traceStep 3 = .ok (.aload_n 0, 1) := by decide +kernel
theorem dX2_traceStep_4 : decode cX2_traceStep 4 = .ok (.getfield 24, 3) := by decide +kernel
theorem dX2_traceStep_7 : decode cX2_traceStep 7 = .ok (.getfield 41, 3) := by decide +kernel
theorem dX2_traceStep_10 : decode cX2_traceStep 10 = .ok (.if_icmp .ge 110, 3) := by decide +kernel
theorem dX2_traceStep_13 : decode cX2_traceStep 13 = .ok (.aload_n 0, 1) := by decide +kernel
theorem dX2_traceStep_14 : decode cX2_traceStep 14 = .ok (.getfield 11, 3) := by decide +kernel
theorem dX2_traceStep_17 : decode cX2_traceStep 17 = .ok (.iload_n 3, 1) := by decide +kernel
theorem dX2_traceStep_18 : decode cX2_traceStep 18 = .ok (.aaload, 1) := by decide +kernel
theorem dX2_traceStep_19 : decode cX2_traceStep 19 = .ok (.iload_n 2, 1) := by decide +kernel
theorem dX2_traceStep_20 : decode cX2_traceStep 20 = .ok (.invokevirtual 113, 3) := by decide +kernel
theorem dX2_traceStep_23 : decode cX2_traceStep 23 = .ok (.istore 4, 2) := by decide +kernel
theorem dX2_traceStep_25 : decode cX2_traceStep 25 = .ok (.iload 4, 2) := by decide +kernel
theorem dX2_traceStep_27 : decode cX2_traceStep 27 = .ok (.ifCond .lt 87, 3) := by decide +kernel
theorem dX2_traceStep_30 : decode cX2_traceStep 30 = .ok (.aload_n 0, 1) := by decide +kernel
theorem dX2_traceStep_31 : decode cX2_traceStep 31 = .ok (.getfield 11, 3) := by decide +kernel
theorem dX2_traceStep_34 : decode cX2_traceStep 34 = .ok (.iload_n 3, 1) := by decide +kernel
theorem dX2_traceStep_35 : decode cX2_traceStep 35 = .ok (.aaload, 1) := by decide +kernel
theorem dX2_traceStep_36 : decode cX2_traceStep 36 = .ok (.getfield 99, 3) := by decide +kernel
theorem dX2_traceStep_39 : decode cX2_traceStep 39 = .ok (.iload 4, 2) := by decide +kernel
theorem dX2_traceStep_41 : decode cX2_traceStep 41 = .ok (.iaload, 1) := by decide +kernel
theorem dX2_traceStep_42 : decode cX2_traceStep 42 = .ok (.aload_n 0, 1) := by decide +kernel
theorem dX2_traceStep_43 : decode cX2_traceStep 43 = .ok (.getfield 17, 3) := by decide +kernel
theorem dX2_traceStep_46 : decode cX2_traceStep 46 = .ok (.iload_n 2, 1) := by decide +kernel
theorem dX2_traceStep_47 : decode cX2_traceStep 47 = .ok (.iaload, 1) := by decide +kernel
theorem dX2_traceStep_48 : decode cX2_traceStep 48 = .ok (.if_icmp .eq 6, 3) := by decide +kernel
theorem dX2_traceStep_51 : decode cX2_traceStep 51 = .ok (.goto 63, 3) := by decide +kernel
theorem dX2_traceStep_54 : decode cX2_traceStep 54 = .ok (.aload_n 0, 1) := by decide +kernel
theorem dX2_traceStep_55 : decode cX2_traceStep 55 = .ok (.iload_n 3, 1) := by decide +kernel
theorem dX2_traceStep_56 : decode cX2_traceStep 56 = .ok (.iload_n 1, 1) := by decide +kernel
theorem dX2_traceStep_57 : decode cX2_traceStep 57 = .ok (.iload 4, 2) := by decide +kernel
theorem dX2_traceStep_59 : decode cX2_traceStep 59 = .ok (.invokevirtual 117, 3) := by decide +kernel
theorem dX2_traceStep_62 : decode cX2_traceStep 62 = .ok (.istore 5, 2) := by decide +kernel
theorem dX2_traceStep_64 : decode cX2_traceStep 64 = .ok (.iload 5, 2) := by decide +kernel
theorem dX2_traceStep_66 : decode cX2_traceStep 66 = .ok (.ifCond .lt 48, 3) := by decide +kernel
theorem dX2_traceStep_69 : decode cX2_traceStep 69 = .ok (.aload_n 0, 1) := by decide +kernel
theorem dX2_traceStep_70 : decode cX2_traceStep 70 = .ok (.getfield 106, 3) := by decide +kernel
theorem dX2_traceStep_73 : decode cX2_traceStep 73 = .ok (.aload_n 0, 1) := by decide +kernel
theorem dX2_traceStep_74 : decode cX2_traceStep 74 = .ok (.getfield 21, 3) := by decide +kernel
theorem dX2_traceStep_77 : decode cX2_traceStep 77 = .ok (.arraylength, 1) := by decide +kernel
theorem dX2_traceStep_78 : decode cX2_traceStep 78 = .ok (.if_icmp .ge 36, 3) := by decide +kernel
theorem dX2_traceStep_81 : decode cX2_traceStep 81 = .ok (.aload_n 0, 1) := by decide +kernel
theorem dX2_traceStep_82 : decode cX2_traceStep 82 = .ok (.getfield 21, 3) := by decide +kernel
theorem dX2_traceStep_85 : decode cX2_traceStep 85 = .ok (.aload_n 0, 1) := by decide +kernel
theorem dX2_traceStep_86 : decode cX2_traceStep 86 = .ok (.getfield 106, 3) := by decide +kernel
theorem dX2_traceStep_89 : decode cX2_traceStep 89 = .ok (.iload_n 3, 1) := by decide +kernel
theorem dX2_traceStep_90 : decode cX2_traceStep 90 = .ok (.iastore, 1) := by decide +kernel
theorem dX2_traceStep_91 : decode cX2_traceStep 91 = .ok (.aload_n 0, 1) := by decide +kernel
theorem dX2_traceStep_92 : decode cX2_traceStep 92 = .ok (.dup, 1) := by decide +kernel
theorem dX2_traceStep_93 : decode cX2_traceStep 93 = .ok (.getfield 106, 3) := by decide +kernel
theorem dX2_traceStep_96 : decode cX2_traceStep 96 = .ok (.iconst 1, 1) := by decide +kernel
theorem dX2_traceStep_97 : decode cX2_traceStep 97 = .ok (.iadd, 1) := by decide +kernel
theorem dX2_traceStep_98 : decode cX2_traceStep 98 = .ok (.putfield 106, 3) := by decide +kernel
theorem dX2_traceStep_101 : decode cX2_traceStep 101 = .ok (.aload_n 0, 1) := by decide +kernel
theorem dX2_traceStep_102 : decode cX2_traceStep 102 = .ok (.getfield 11, 3) := by decide +kernel
theorem dX2_traceStep_105 : decode cX2_traceStep 105 = .ok (.iload_n 3, 1) := by decide +kernel
theorem dX2_traceStep_106 : decode cX2_traceStep 106 = .ok (.aaload, 1) := by decide +kernel
theorem dX2_traceStep_107 : decode cX2_traceStep 107 = .ok (.getfield 96, 3) := by decide +kernel
theorem dX2_traceStep_110 : decode cX2_traceStep 110 = .ok (.iload 5, 2) := by decide +kernel
theorem dX2_traceStep_112 : decode cX2_traceStep 112 = .ok (.iaload, 1) := by decide +kernel
theorem dX2_traceStep_113 : decode cX2_traceStep 113 = .ok (.ireturn, 1) := by decide +kernel
theorem dX2_traceStep_114 : decode cX2_traceStep 114 = .ok (.iinc 3 1, 3) := by decide +kernel
theorem dX2_traceStep_117 : decode cX2_traceStep 117 = .ok (.goto (-115), 3) := by decide +kernel
theorem dX2_traceStep_120 : decode cX2_traceStep 120 = .ok (.aload_n 0, 1) := by decide +kernel
theorem dX2_traceStep_121 : decode cX2_traceStep 121 = .ok (.getfield 24, 3) := by decide +kernel
theorem dX2_traceStep_124 : decode cX2_traceStep 124 = .ok (.getfield 75, 3) := by decide +kernel
theorem dX2_traceStep_127 : decode cX2_traceStep 127 = .ok (.iload_n 1, 1) := by decide +kernel
theorem dX2_traceStep_128 : decode cX2_traceStep 128 = .ok (.aaload, 1) := by decide +kernel
theorem dX2_traceStep_129 : decode cX2_traceStep 129 = .ok (.getfield 86, 3) := by decide +kernel
theorem dX2_traceStep_132 : decode cX2_traceStep 132 = .ok (.ireturn, 1) := by decide +kernel
theorem dX2_lastStart_0 : decode cX2_lastStart 0 = .ok (.aload_n 0, 1) := by decide +kernel
theorem dX2_lastStart_1 : decode cX2_lastStart 1 = .ok (.getfield 11, 3) := by decide +kernel
theorem dX2_lastStart_4 : decode cX2_lastStart 4 = .ok (.iload_n 1, 1) := by decide +kernel
theorem dX2_lastStart_5 : decode cX2_lastStart 5 = .ok (.aaload, 1) := by decide +kernel
theorem dX2_lastStart_6 : decode cX2_lastStart 6 = .ok (.astore 4, 2) := by decide +kernel
theorem dX2_lastStart_8 : decode cX2_lastStart 8 = .ok (.iload_n 3, 1) := by decide +kernel
theorem dX2_lastStart_9 : decode cX2_lastStart 9 = .ok (.iconst 1, 1) := by decide +kernel
theorem dX2_lastStart_10 : decode cX2_lastStart 10 = .ok (.isub, 1) := by decide +kernel
theorem dX2_lastStart_11 : decode cX2_lastStart 11 = .ok (.istore 5, 2) := by decide +kernel
theorem dX2_lastStart_13 : decode cX2_lastStart 13 = .ok (.iload 5, 2) := by decide +kernel
theorem dX2_lastStart_15 : decode cX2_lastStart 15 = .ok (.ifCond .lt 53, 3) := by decide +kernel
theorem dX2_lastStart_18 : decode cX2_lastStart 18 = .ok (.aload_n 0, 1) := by decide +kernel
theorem dX2_lastStart_19 : decode cX2_lastStart 19 = .ok (.getfield 17, 3) := by decide +kernel
theorem dX2_lastStart_22 : decode cX2_lastStart 22 = .ok (.aload 4, 2) := by decide +kernel
theorem dX2_lastStart_24 : decode cX2_lastStart 24 = .ok (.getfield 96, 3) := by decide +kernel
theorem dX2_lastStart_27 : decode cX2_lastStart 27 = .ok (.iload 5, 2) := by decide +kernel
theorem dX2_lastStart_29 : decode cX2_lastStart 29 = .ok (.iaload, 1) := by decide +kernel
theorem dX2_lastStart_30 : decode cX2_lastStart 30 = .ok (.iaload, 1) := by decide +kernel
theorem dX2_lastStart_31 : decode cX2_lastStart 31 = .ok (.aload 4, 2) := by decide +kernel
theorem dX2_lastStart_33 : decode cX2_lastStart 33 = .ok (.getfield 99, 3) := by decide +kernel
theorem dX2_lastStart_36 : decode cX2_lastStart 36 = .ok (.iload 5, 2) := by decide +kernel
theorem dX2_lastStart_38 : decode cX2_lastStart 38 = .ok (.iaload, 1) := by decide +kernel
theorem dX2_lastStart_39 : decode cX2_lastStart 39 = .ok (.if_icmp .gt 23, 3) := by decide +kernel
theorem dX2_lastStart_42 : decode cX2_lastStart 42 = .ok (.aload_n 0, 1) := by decide +kernel
theorem dX2_lastStart_43 : decode cX2_lastStart 43 = .ok (.iload_n 1, 1) := by decide +kernel
theorem dX2_lastStart_44 : decode cX2_lastStart 44 = .ok (.iload_n 2, 1) := by decide +kernel
theorem dX2_lastStart_45 : decode cX2_lastStart 45 = .ok (.aload 4, 2) := by decide +kernel
theorem dX2_lastStart_47 : decode cX2_lastStart 47 = .ok (.getfield 99, 3) := by decide +kernel
theorem dX2_lastStart_50 : decode cX2_lastStart 50 = .ok (.iload 5, 2) := by decide +kernel
theorem dX2_lastStart_52 : decode cX2_lastStart 52 = .ok (.iaload, 1) := by decide +kernel
theorem dX2_lastStart_53 : decode cX2_lastStart 53 = .ok (.invokevirtual 102, 3) := by decide +kernel
theorem dX2_lastStart_56 : decode cX2_lastStart 56 = .ok (.ifCond .eq 6, 3) := by decide +kernel
theorem dX2_lastStart_59 : decode cX2_lastStart 59 = .ok (.iload 5, 2) := by decide +kernel
theorem dX2_lastStart_61 : decode cX2_lastStart 61 = .ok (.ireturn, 1) := by decide +kernel
theorem dX2_lastStart_62 : decode cX2_lastStart 62 = .ok (.iinc 5 (-1), 3) := by decide +kernel
theorem dX2_lastStart_65 : decode cX2_lastStart 65 = .ok (.goto (-52), 3) := by decide +kernel
theorem dX2_lastStart_68 : decode cX2_lastStart 68 = .ok (.iconst (-1), 1) := by decide +kernel
theorem dX2_lastStart_69 : decode cX2_lastStart 69 = .ok (.ireturn, 1) := by decide +kernel
theorem dX2_carrierAt_0 : decode cX2_carrierAt 0 = .ok (.iload_n 1, 1) := by decide +kernel
theorem dX2_carrierAt_1 : decode cX2_carrierAt 1 = .ok (.ifCond .lt 27, 3) := by decide +kernel
theorem dX2_carrierAt_4 : decode cX2_carrierAt 4 = .ok (.iload_n 1, 1) := by decide +kernel
theorem dX2_carrierAt_5 : decode cX2_carrierAt 5 = .ok (.aload_n 0, 1) := by decide +kernel
theorem dX2_carrierAt_6 : decode cX2_carrierAt 6 = .ok (.getfield 106, 3) := by decide +kernel
theorem dX2_carrierAt_9 : decode cX2_carrierAt 9 = .ok (.if_icmp .ge 19, 3) := by decide +kernel
theorem dX2_carrierAt_12 : decode cX2_carrierAt 12 = .ok (.aload_n 0, 1) := by decide +kernel
theorem dX2_carrierAt_13 : decode cX2_carrierAt 13 = .ok (.getfield 21, 3) := by decide +kernel
theorem dX2_carrierAt_16 : decode cX2_carrierAt 16 = .ok (.aload_n 0, 1) := by decide +kernel
theorem dX2_carrierAt_17 : decode cX2_carrierAt 17 = .ok (.getfield 106, 3) := by decide +kernel
theorem dX2_carrierAt_20 : decode cX2_carrierAt 20 = .ok (.iconst 1, 1) := by decide +kernel
theorem dX2_carrierAt_21 : decode cX2_carrierAt 21 = .ok (.isub, 1) := by decide +kernel
theorem dX2_carrierAt_22 : decode cX2_carrierAt 22 = .ok (.iload_n 1, 1) := by decide +kernel
theorem dX2_carrierAt_23 : decode cX2_carrierAt 23 = .ok (.isub, 1) := by decide +kernel
theorem dX2_carrierAt_24 : decode cX2_carrierAt 24 = .ok (.iaload, 1) := by decide +kernel
theorem dX2_carrierAt_25 : decode cX2_carrierAt 25 = .ok (.goto 5, 3) := by decide +kernel
theorem dX2_carrierAt_28 : decode cX2_carrierAt 28 = .ok (.bipush (-9), 2) := by decide +kernel
theorem dX2_carrierAt_30 : decode cX2_carrierAt 30 = .ok (.ireturn, 1) := by decide +kernel
theorem dX2_barredBits_0 : decode cX2_barredBits 0 = .ok (.aload_n 0, 1) := by decide +kernel
theorem dX2_barredBits_1 : decode cX2_barredBits 1 = .ok (.iload_n 1, 1) := by decide +kernel
theorem dX2_barredBits_2 : decode cX2_barredBits 2 = .ok (.invokevirtual 121, 3) := by decide +kernel
theorem dX2_barredBits_5 : decode cX2_barredBits 5 = .ok (.bipush (-9), 2) := by decide +kernel
theorem dX2_barredBits_7 : decode cX2_barredBits 7 = .ok (.if_icmp .eq 5, 3) := by decide +kernel
theorem dX2_barredBits_10 : decode cX2_barredBits 10 = .ok (.iconst 0, 1) := by decide +kernel
theorem dX2_barredBits_11 : decode cX2_barredBits 11 = .ok (.ireturn, 1) := by decide +kernel
theorem dX2_barredBits_12 : decode cX2_barredBits 12 = .ok (.iconst 0, 1) := by decide +kernel
theorem dX2_barredBits_13 : decode cX2_barredBits 13 = .ok (.istore_n 2, 1) := by decide +kernel
theorem dX2_barredBits_14 : decode cX2_barredBits 14 = .ok (.iconst 0, 1) := by decide +kernel
theorem dX2_barredBits_15 : decode cX2_barredBits 15 = .ok (.istore_n 3, 1) := by decide +kernel
theorem dX2_barredBits_16 : decode cX2_barredBits 16 = .ok (.iload_n 3, 1) := by decide +kernel
theorem dX2_barredBits_17 : decode cX2_barredBits 17 = .ok (.aload_n 0, 1) := by decide +kernel
theorem dX2_barredBits_18 : decode cX2_barredBits 18 = .ok (.getfield 24, 3) := by decide +kernel
theorem dX2_barredBits_21 : decode cX2_barredBits 21 = .ok (.getfield 41, 3) := by decide +kernel
theorem dX2_barredBits_24 : decode cX2_barredBits 24 = .ok (.if_icmp .ge 30, 3) := by decide +kernel
theorem dX2_barredBits_27 : decode cX2_barredBits 27 = .ok (.aload_n 0, 1) := by decide +kernel
theorem dX2_barredBits_28 : decode cX2_barredBits 28 = .ok (.iload_n 3, 1) := by decide +kernel
theorem dX2_barredBits_29 : decode cX2_barredBits 29 = .ok (.putfield 38, 3) := by decide +kernel
theorem dX2_barredBits_32 : decode cX2_barredBits 32 = .ok (.aload_n 0, 1) := by decide +kernel
theorem dX2_barredBits_33 : decode cX2_barredBits 33 = .ok (.iload_n 1, 1) := by decide +kernel
theorem dX2_barredBits_34 : decode cX2_barredBits 34 = .ok (.invokevirtual 121, 3) := by decide +kernel
theorem dX2_barredBits_37 : decode cX2_barredBits 37 = .ok (.bipush (-9), 2) := by decide +kernel
theorem dX2_barredBits_39 : decode cX2_barredBits 39 = .ok (.if_icmp .eq 9, 3) := by decide +kernel
theorem dX2_barredBits_42 : decode cX2_barredBits 42 = .ok (.iload_n 2, 1) := by decide +kernel
theorem dX2_barredBits_43 : decode cX2_barredBits 43 = .ok (.iconst 1, 1) := by decide +kernel
theorem dX2_barredBits_44 : decode cX2_barredBits 44 = .ok (.iload_n 3, 1) := by decide +kernel
theorem dX2_barredBits_45 : decode cX2_barredBits 45 = .ok (.ishl, 1) := by decide +kernel
theorem dX2_barredBits_46 : decode cX2_barredBits 46 = .ok (.ior, 1) := by decide +kernel
theorem dX2_barredBits_47 : decode cX2_barredBits 47 = .ok (.istore_n 2, 1) := by decide +kernel
theorem dX2_barredBits_48 : decode cX2_barredBits 48 = .ok (.iinc 3 1, 3) := by decide +kernel
theorem dX2_barredBits_51 : decode cX2_barredBits 51 = .ok (.goto (-35), 3) := by decide +kernel
theorem dX2_barredBits_54 : decode cX2_barredBits 54 = .ok (.aload_n 0, 1) := by decide +kernel
theorem dX2_barredBits_55 : decode cX2_barredBits 55 = .ok (.bipush (-9), 2) := by decide +kernel
theorem dX2_barredBits_57 : decode cX2_barredBits 57 = .ok (.putfield 38, 3) := by decide +kernel
theorem dX2_barredBits_60 : decode cX2_barredBits 60 = .ok (.iload_n 2, 1) := by decide +kernel
theorem dX2_barredBits_61 : decode cX2_barredBits 61 = .ok (.ireturn, 1) := by decide +kernel
theorem dX2_somebodyComesBy_0 : decode cX2_somebodyComesBy 0 = .ok (.iconst 0, 1) := by decide +kernel
theorem dX2_somebodyComesBy_1 : decode cX2_somebodyComesBy 1 = .ok (.istore_n 3, 1) := by decide +kernel
theorem dX2_somebodyComesBy_2 : decode cX2_somebodyComesBy 2 = .ok (.iload_n 3, 1) := by decide +kernel
theorem dX2_somebodyComesBy_3 : decode cX2_somebodyComesBy 3 = .ok (.aload_n 0, 1) := by decide +kernel
theorem dX2_somebodyComesBy_4 : decode cX2_somebodyComesBy 4 = .ok (.getfield 24, 3) := by decide +kernel
theorem dX2_somebodyComesBy_7 : decode cX2_somebodyComesBy 7 = .ok (.getfield 41, 3) := by decide +kernel
theorem dX2_somebodyComesBy_10 : decode cX2_somebodyComesBy 10 = .ok (.if_icmp .ge 49, 3) := by decide +kernel
theorem dX2_somebodyComesBy_13 : decode cX2_somebodyComesBy 13 = .ok (.aload_n 0, 1) := by decide +kernel
theorem dX2_somebodyComesBy_14 : decode cX2_somebodyComesBy 14 = .ok (.getfield 11, 3) := by decide +kernel
theorem dX2_somebodyComesBy_17 : decode cX2_somebodyComesBy 17 = .ok (.iload_n 3, 1) := by decide +kernel
theorem dX2_somebodyComesBy_18 : decode cX2_somebodyComesBy 18 = .ok (.aaload, 1) := by decide +kernel
theorem dX2_somebodyComesBy_19 : decode cX2_somebodyComesBy 19 = .ok (.iload_n 2, 1) := by decide +kernel
theorem dX2_somebodyComesBy_20 : decode cX2_somebodyComesBy 20 = .ok (.invokevirtual 113, 3) := by decide +kernel
theorem dX2_somebodyComesBy_23 : decode cX2_somebodyComesBy 23 = .ok (.istore 4, 2) := by decide +kernel
theorem dX2_somebodyComesBy_25 : decode cX2_somebodyComesBy 25 = .ok (.iload 4, 2) := by decide +kernel
theorem dX2_somebodyComesBy_27 : decode cX2_somebodyComesBy 27 = .ok (.ifCond .lt 26, 3) := by decide +kernel
theorem dX2_somebodyComesBy_30 : decode cX2_somebodyComesBy 30 = .ok (.aload_n 0, 1) := by decide +kernel
theorem dX2_somebodyComesBy_31 : decode cX2_somebodyComesBy 31 = .ok (.iload_n 3, 1) := by decide +kernel
theorem dX2_somebodyComesBy_32 : decode cX2_somebodyComesBy 32 = .ok (.iload_n 1, 1) := by decide +kernel
theorem dX2_somebodyComesBy_33 : decode cX2_somebodyComesBy 33 = .ok (.aload_n 0, 1) := by decide +kernel
theorem dX2_somebodyComesBy_34 : decode cX2_somebodyComesBy 34 = .ok (.getfield 11, 3) := by decide +kernel
theorem dX2_somebodyComesBy_37 : decode cX2_somebodyComesBy 37 = .ok (.iload_n 3, 1) := by decide +kernel
theorem dX2_somebodyComesBy_38 : decode cX2_somebodyComesBy 38 = .ok (.aaload, 1) := by decide +kernel
theorem dX2_somebodyComesBy_39 : decode cX2_somebodyComesBy 39 = .ok (.getfield 99, 3) := by decide +kernel
theorem dX2_somebodyComesBy_42 : decode cX2_somebodyComesBy 42 = .ok (.iload 4, 2) := by decide +kernel
theorem dX2_somebodyComesBy_44 : decode cX2_somebodyComesBy 44 = .ok (.iaload, 1) := by decide +kernel
theorem dX2_somebodyComesBy_45 : decode cX2_somebodyComesBy 45 = .ok (.invokevirtual 102, 3) := by decide +kernel
theorem dX2_somebodyComesBy_48 : decode cX2_somebodyComesBy 48 = .ok (.ifCond .eq 5, 3) := by decide +kernel
theorem dX2_somebodyComesBy_51 : decode cX2_somebodyComesBy 51 = .ok (.iconst 1, 1) := by decide +kernel
theorem dX2_somebodyComesBy_52 : decode cX2_somebodyComesBy 52 = .ok (.ireturn, 1) := by decide +kernel
theorem dX2_somebodyComesBy_53 : decode cX2_somebodyComesBy 53 = .ok (.iinc 3 1, 3) := by decide +kernel
theorem dX2_somebodyComesBy_56 : decode cX2_somebodyComesBy 56 = .ok (.goto (-54), 3) := by decide +kernel
theorem dX2_somebodyComesBy_59 : decode cX2_somebodyComesBy 59 = .ok (.iconst 0, 1) := by decide +kernel
theorem dX2_somebodyComesBy_60 : decode cX2_somebodyComesBy 60 = .ok (.ireturn, 1) := by decide +kernel
theorem dX2_isInTime_0 : decode cX2_isInTime 0 = .ok (.aload_n 0, 1) := by decide +kernel
theorem dX2_isInTime_1 : decode cX2_isInTime 1 = .ok (.iload_n 1, 1) := by decide +kernel
theorem dX2_isInTime_2 : decode cX2_isInTime 2 = .ok (.invokevirtual 121, 3) := by decide +kernel
theorem dX2_isInTime_5 : decode cX2_isInTime 5 = .ok (.istore_n 2, 1) := by decide +kernel
theorem dX2_isInTime_6 : decode cX2_isInTime 6 = .ok (.iload_n 2, 1) := by decide +kernel
theorem dX2_isInTime_7 : decode cX2_isInTime 7 = .ok (.bipush (-9), 2) := by decide +kernel
theorem dX2_isInTime_9 : decode cX2_isInTime 9 = .ok (.if_icmp .eq 23, 3) := by decide +kernel
theorem dX2_isInTime_12 : decode cX2_isInTime 12 = .ok (.iload_n 2, 1) := by decide +kernel
theorem dX2_isInTime_13 : decode cX2_isInTime 13 = .ok (.aload_n 0, 1) := by decide +kernel
theorem dX2_isInTime_14 : decode cX2_isInTime 14 = .ok (.getfield 24, 3) := by decide +kernel
theorem dX2_isInTime_17 : decode cX2_isInTime 17 = .ok (.getfield 75, 3) := by decide +kernel
theorem dX2_isInTime_20 : decode cX2_isInTime 20 = .ok (.iload_n 1, 1) := by decide +kernel
theorem dX2_isInTime_21 : decode cX2_isInTime 21 = .ok (.aaload, 1) := by decide +kernel
theorem dX2_isInTime_22 : decode cX2_isInTime 22 = .ok (.getfield 124, 3) := by decide +kernel
theorem dX2_isInTime_25 : decode cX2_isInTime 25 = .ok (.if_icmp .gt 7, 3) := by decide +kernel
theorem dX2_isInTime_28 : decode cX2_isInTime 28 = .ok (.iconst 1, 1) := by decide +kernel
theorem dX2_isInTime_29 : decode cX2_isInTime 29 = .ok (.goto 4, 3) := by decide +kernel
theorem dX2_isInTime_32 : decode cX2_isInTime 32 = .ok (.iconst 0, 1) := by decide +kernel
theorem dX2_isInTime_33 : decode cX2_isInTime 33 = .ok (.ireturn, 1) := by decide +kernel
theorem dX2_sumOfSoonest_0 : decode cX2_sumOfSoonest 0 = .ok (.iconst 0, 1) := by decide +kernel
theorem dX2_sumOfSoonest_1 : decode cX2_sumOfSoonest 1 = .ok (.istore_n 1, 1) := by decide +kernel
theorem dX2_sumOfSoonest_2 : decode cX2_sumOfSoonest 2 = .ok (.iconst 0, 1) := by decide +kernel
theorem dX2_sumOfSoonest_3 : decode cX2_sumOfSoonest 3 = .ok (.istore_n 2, 1) := by decide +kernel
theorem dX2_sumOfSoonest_4 : decode cX2_sumOfSoonest 4 = .ok (.iload_n 2, 1) := by decide +kernel
theorem dX2_sumOfSoonest_5 : decode cX2_sumOfSoonest 5 = .ok (.aload_n 0, 1) := by decide +kernel
theorem dX2_sumOfSoonest_6 : decode cX2_sumOfSoonest 6 = .ok (.getfield 24, 3) := by decide +kernel
theorem dX2_sumOfSoonest_9 : decode cX2_sumOfSoonest 9 = .ok (.getfield 127, 3) := by decide +kernel
theorem dX2_sumOfSoonest_12 : decode cX2_sumOfSoonest 12 = .ok (.if_icmp .ge 31, 3) := by decide +kernel
theorem dX2_sumOfSoonest_15 : decode cX2_sumOfSoonest 15 = .ok (.aload_n 0, 1) := by decide +kernel
theorem dX2_sumOfSoonest_16 : decode cX2_sumOfSoonest 16 = .ok (.iload_n 2, 1) := by decide +kernel
theorem dX2_sumOfSoonest_17 : decode cX2_sumOfSoonest 17 = .ok (.invokevirtual 121, 3) := by decide +kernel
theorem dX2_sumOfSoonest_20 : decode cX2_sumOfSoonest 20 = .ok (.istore_n 3, 1) := by decide +kernel
theorem dX2_sumOfSoonest_21 : decode cX2_sumOfSoonest 21 = .ok (.iload_n 1, 1) := by decide +kernel
theorem dX2_sumOfSoonest_22 : decode cX2_sumOfSoonest 22 = .ok (.iload_n 3, 1) := by decide +kernel
theorem dX2_sumOfSoonest_23 : decode cX2_sumOfSoonest 23 = .ok (.bipush (-9), 2) := by decide +kernel
theorem dX2_sumOfSoonest_25 : decode cX2_sumOfSoonest 25 = .ok (.if_icmp .ne 9, 3) := by decide +kernel
theorem dX2_sumOfSoonest_28 : decode cX2_sumOfSoonest 28 = .ok (.sipush 999, 3) := by decide +kernel
theorem dX2_sumOfSoonest_31 : decode cX2_sumOfSoonest 31 = .ok (.goto 4, 3) := by decide +kernel
theorem dX2_sumOfSoonest_34 : decode cX2_sumOfSoonest 34 = .ok (.iload_n 3, 1) := by decide +kernel
theorem dX2_sumOfSoonest_35 : decode cX2_sumOfSoonest 35 = .ok (.iadd, 1) := by decide +kernel
theorem dX2_sumOfSoonest_36 : decode cX2_sumOfSoonest 36 = .ok (.istore_n 1, 1) := by decide +kernel
theorem dX2_sumOfSoonest_37 : decode cX2_sumOfSoonest 37 = .ok (.iinc 2 1, 3) := by decide +kernel
theorem dX2_sumOfSoonest_40 : decode cX2_sumOfSoonest 40 = .ok (.goto (-36), 3) := by decide +kernel
theorem dX2_sumOfSoonest_43 : decode cX2_sumOfSoonest 43 = .ok (.iload_n 1, 1) := by decide +kernel
theorem dX2_sumOfSoonest_44 : decode cX2_sumOfSoonest 44 = .ok (.ireturn, 1) := by decide +kernel
theorem dX2_bestChange_0 : decode cX2_bestChange 0 = .ok (.aload_n 0, 1) := by decide +kernel
theorem dX2_bestChange_1 : decode cX2_bestChange 1 = .ok (.invokevirtual 130, 3) := by decide +kernel
theorem dX2_bestChange_4 : decode cX2_bestChange 4 = .ok (.istore_n 1, 1) := by decide +kernel
theorem dX2_bestChange_5 : decode cX2_bestChange 5 = .ok (.bipush (-9), 2) := by decide +kernel
theorem dX2_bestChange_7 : decode cX2_bestChange 7 = .ok (.istore_n 2, 1) := by decide +kernel
theorem dX2_bestChange_8 : decode cX2_bestChange 8 = .ok (.iconst 0, 1) := by decide +kernel
theorem dX2_bestChange_9 : decode cX2_bestChange 9 = .ok (.istore_n 3, 1) := by decide +kernel
theorem dX2_bestChange_10 : decode cX2_bestChange 10 = .ok (.iload_n 3, 1) := by decide +kernel
theorem dX2_bestChange_11 : decode cX2_bestChange 11 = .ok (.aload_n 0, 1) := by decide +kernel
theorem dX2_bestChange_12 : decode cX2_bestChange 12 = .ok (.getfield 24, 3) := by decide +kernel
theorem dX2_bestChange_15 : decode cX2_bestChange 15 = .ok (.getfield 41, 3) := by decide +kernel
theorem dX2_bestChange_18 : decode cX2_bestChange 18 = .ok (.if_icmp .ge 83, 3) := by decide +kernel
theorem dX2_bestChange_21 : decode cX2_bestChange 21 = .ok (.iload_n 3, 1) := by decide +kernel
theorem dX2_bestChange_22 : decode cX2_bestChange 22 = .ok (.iconst 1, 1) := by decide +kernel
theorem dX2_bestChange_23 : decode cX2_bestChange 23 = .ok (.iadd, 1) := by decide +kernel
theorem dX2_bestChange_24 : decode cX2_bestChange 24 = .ok (.istore 4, 2) := by decide +kernel
theorem dX2_bestChange_26 : decode cX2_bestChange 26 = .ok (.iload 4, 2) := by decide +kernel
theorem dX2_bestChange_28 : decode cX2_bestChange 28 = .ok (.aload_n 0, 1) := by decide +kernel
theorem dX2_bestChange_29 : decode cX2_bestChange 29 = .ok (.getfield 24, 3) := by decide +kernel
theorem dX2_bestChange_32 : decode cX2_bestChange 32 = .ok (.getfield 41, 3) := by decide +kernel
theorem dX2_bestChange_35 : decode cX2_bestChange 35 = .ok (.if_icmp .ge 60, 3) := by decide +kernel
theorem dX2_bestChange_38 : decode cX2_bestChange 38 = .ok (.aload_n 0, 1) := by decide +kernel
theorem dX2_bestChange_39 : decode cX2_bestChange 39 = .ok (.iload_n 3, 1) := by decide +kernel
theorem dX2_bestChange_40 : decode cX2_bestChange 40 = .ok (.iload 4, 2) := by decide +kernel
theorem dX2_bestChange_42 : decode cX2_bestChange 42 = .ok (.invokevirtual 44, 3) := by decide +kernel
theorem dX2_bestChange_45 : decode cX2_bestChange 45 = .ok (.aload_n 0, 1) := by decide +kernel
theorem dX2_bestChange_46 : decode cX2_bestChange 46 = .ok (.iload 4, 2) := by decide +kernel
theorem dX2_bestChange_48 : decode cX2_bestChange 48 = .ok (.iload_n 3, 1) := by decide +kernel
theorem dX2_bestChange_49 : decode cX2_bestChange 49 = .ok (.invokevirtual 44, 3) := by decide +kernel
theorem dX2_bestChange_52 : decode cX2_bestChange 52 = .ok (.aload_n 0, 1) := by decide +kernel
theorem dX2_bestChange_53 : decode cX2_bestChange 53 = .ok (.invokevirtual 130, 3) := by decide +kernel
theorem dX2_bestChange_56 : decode cX2_bestChange 56 = .ok (.istore 5, 2) := by decide +kernel
theorem dX2_bestChange_58 : decode cX2_bestChange 58 = .ok (.aload_n 0, 1) := by decide +kernel
theorem dX2_bestChange_59 : decode cX2_bestChange 59 = .ok (.iload_n 3, 1) := by decide +kernel
theorem dX2_bestChange_60 : decode cX2_bestChange 60 = .ok (.iload_n 3, 1) := by decide +kernel
theorem dX2_bestChange_61 : decode cX2_bestChange 61 = .ok (.invokevirtual 44, 3) := by decide +kernel
theorem dX2_bestChange_64 : decode cX2_bestChange 64 = .ok (.aload_n 0, 1) := by decide +kernel
theorem dX2_bestChange_65 : decode cX2_bestChange 65 = .ok (.iload 4, 2) := by decide +kernel
theorem dX2_bestChange_67 : decode cX2_bestChange 67 = .ok (.iload 4, 2) := by decide +kernel
theorem dX2_bestChange_69 : decode cX2_bestChange 69 = .ok (.invokevirtual 44, 3) := by decide +kernel
theorem dX2_bestChange_72 : decode cX2_bestChange 72 = .ok (.iload 5, 2) := by decide +kernel
theorem dX2_bestChange_74 : decode cX2_bestChange 74 = .ok (.iload_n 1, 1) := by decide +kernel
theorem dX2_bestChange_75 : decode cX2_bestChange 75 = .ok (.if_icmp .ge 14, 3) := by decide +kernel
theorem dX2_bestChange_78 : decode cX2_bestChange 78 = .ok (.iload 5, 2) := by decide +kernel
theorem dX2_bestChange_80 : decode cX2_bestChange 80 = .ok (.istore_n 1, 1) := by decide +kernel
theorem dX2_bestChange_81 : decode cX2_bestChange 81 = .ok (.bipush 10, 2) := by decide +kernel
theorem dX2_bestChange_83 : decode cX2_bestChange 83 = .ok (.iload_n 3, 1) := by decide +kernel
theorem dX2_bestChange_84 : decode cX2_bestChange 84 = .ok (.imul, 1) := by decide +kernel
theorem dX2_bestChange_85 : decode cX2_bestChange 85 = .ok (.iload 4, 2) := by decide +kernel
theorem dX2_bestChange_87 : decode cX2_bestChange 87 = .ok (.iadd, 1) := by decide +kernel
theorem dX2_bestChange_88 : decode cX2_bestChange 88 = .ok (.istore_n 2, 1) := by decide +kernel
theorem dX2_bestChange_89 : decode cX2_bestChange 89 = .ok (.iinc 4 1, 3) := by decide +kernel
theorem dX2_bestChange_92 : decode cX2_bestChange 92 = .ok (.goto (-66), 3) := by decide +kernel
theorem dX2_bestChange_95 : decode cX2_bestChange 95 = .ok (.iinc 3 1, 3) := by decide +kernel
theorem dX2_bestChange_98 : decode cX2_bestChange 98 = .ok (.goto (-88), 3) := by decide +kernel
theorem dX2_bestChange_101 : decode cX2_bestChange 101 = .ok (.iload_n 2, 1) := by decide +kernel
theorem dX2_bestChange_102 : decode cX2_bestChange 102 = .ok (.ireturn, 1) := by decide +kernel
theorem dX2_inTimeOnDays_0 : decode cX2_inTimeOnDays 0 = .ok (.aload_n 0, 1) := by decide +kernel
theorem dX2_inTimeOnDays_1 : decode cX2_inTimeOnDays 1 = .ok (.iload_n 2, 1) := by decide +kernel
theorem dX2_inTimeOnDays_2 : decode cX2_inTimeOnDays 2 = .ok (.putfield 134, 3) := by decide +kernel
theorem dX2_inTimeOnDays_5 : decode cX2_inTimeOnDays 5 = .ok (.iconst 0, 1) := by decide +kernel
theorem dX2_inTimeOnDays_6 : decode cX2_inTimeOnDays 6 = .ok (.istore_n 3, 1) := by decide +kernel
theorem dX2_inTimeOnDays_7 : decode cX2_inTimeOnDays 7 = .ok (.iconst 0, 1) := by decide +kernel
theorem dX2_inTimeOnDays_8 : decode cX2_inTimeOnDays 8 = .ok (.istore 4, 2) := by decide +kernel
theorem dX2_inTimeOnDays_10 : decode cX2_inTimeOnDays 10 = .ok (.iload 4, 2) := by decide +kernel
theorem dX2_inTimeOnDays_12 : decode cX2_inTimeOnDays 12 = .ok (.iload_n 1, 1) := by decide +kernel
theorem dX2_inTimeOnDays_13 : decode cX2_inTimeOnDays 13 = .ok (.if_icmp .ge 112, 3) := by decide +kernel
theorem dX2_inTimeOnDays_16 : decode cX2_inTimeOnDays 16 = .ok (.iconst 0, 1) := by decide +kernel
theorem dX2_inTimeOnDays_17 : decode cX2_inTimeOnDays 17 = .ok (.istore 5, 2) := by decide +kernel
theorem dX2_inTimeOnDays_19 : decode cX2_inTimeOnDays 19 = .ok (.iload 5, 2) := by decide +kernel
theorem dX2_inTimeOnDays_21 : decode cX2_inTimeOnDays 21 = .ok (.aload_n 0, 1) := by decide +kernel
theorem dX2_inTimeOnDays_22 : decode cX2_inTimeOnDays 22 = .ok (.getfield 24, 3) := by decide +kernel
theorem dX2_inTimeOnDays_25 : decode cX2_inTimeOnDays 25 = .ok (.getfield 41, 3) := by decide +kernel
theorem dX2_inTimeOnDays_28 : decode cX2_inTimeOnDays 28 = .ok (.if_icmp .ge 53, 3) := by decide +kernel
theorem dX2_inTimeOnDays_31 : decode cX2_inTimeOnDays 31 = .ok (.aload_n 0, 1) := by decide +kernel
theorem dX2_inTimeOnDays_32 : decode cX2_inTimeOnDays 32 = .ok (.getfield 11, 3) := by decide +kernel
theorem dX2_inTimeOnDays_35 : decode cX2_inTimeOnDays 35 = .ok (.iload 5, 2) := by decide +kernel
theorem dX2_inTimeOnDays_37 : decode cX2_inTimeOnDays 37 = .ok (.aaload, 1) := by decide +kernel
theorem dX2_inTimeOnDays_38 : decode cX2_inTimeOnDays 38 = .ok (.aload_n 0, 1) := by decide +kernel
theorem dX2_inTimeOnDays_39 : decode cX2_inTimeOnDays 39 = .ok (.getfield 24, 3) := by decide +kernel
theorem dX2_inTimeOnDays_42 : decode cX2_inTimeOnDays 42 = .ok (.aload_n 0, 1) := by decide +kernel
theorem dX2_inTimeOnDays_43 : decode cX2_inTimeOnDays 43 = .ok (.getfield 24, 3) := by decide +kernel
theorem dX2_inTimeOnDays_46 : decode cX2_inTimeOnDays 46 = .ok (.getfield 48, 3) := by decide +kernel
theorem dX2_inTimeOnDays_49 : decode cX2_inTimeOnDays 49 = .ok (.iload 5, 2) := by decide +kernel
theorem dX2_inTimeOnDays_51 : decode cX2_inTimeOnDays 51 = .ok (.aaload, 1) := by decide +kernel
theorem dX2_inTimeOnDays_52 : decode cX2_inTimeOnDays 52 = .ok (.getfield 52, 3) := by decide +kernel
theorem dX2_inTimeOnDays_55 : decode cX2_inTimeOnDays 55 = .ok (.aload_n 0, 1) := by decide +kernel
theorem dX2_inTimeOnDays_56 : decode cX2_inTimeOnDays 56 = .ok (.getfield 24, 3) := by decide +kernel
theorem dX2_inTimeOnDays_59 : decode cX2_inTimeOnDays 59 = .ok (.getfield 48, 3) := by decide +kernel
theorem dX2_inTimeOnDays_62 : decode cX2_inTimeOnDays 62 = .ok (.iload 5, 2) := by decide +kernel
theorem dX2_inTimeOnDays_64 : decode cX2_inTimeOnDays 64 = .ok (.aaload, 1) := by decide +kernel
theorem dX2_inTimeOnDays_65 : decode cX2_inTimeOnDays 65 = .ok (.getfield 57, 3) := by decide +kernel
theorem dX2_inTimeOnDays_68 : decode cX2_inTimeOnDays 68 = .ok (.aload_n 0, 1) := by decide +kernel
theorem dX2_inTimeOnDays_69 : decode cX2_inTimeOnDays 69 = .ok (.invokevirtual 137, 3) := by decide +kernel
theorem dX2_inTimeOnDays_72 : decode cX2_inTimeOnDays 72 = .ok (.invokevirtual 63, 3) := by decide +kernel
theorem dX2_inTimeOnDays_75 : decode cX2_inTimeOnDays 75 = .ok (.iinc 5 1, 3) := by decide +kernel
theorem dX2_inTimeOnDays_78 : decode cX2_inTimeOnDays 78 = .ok (.goto (-59), 3) := by decide +kernel
theorem dX2_inTimeOnDays_81 : decode cX2_inTimeOnDays 81 = .ok (.iconst 0, 1) := by decide +kernel
theorem dX2_inTimeOnDays_82 : decode cX2_inTimeOnDays 82 = .ok (.istore 5, 2) := by decide +kernel
theorem dX2_inTimeOnDays_84 : decode cX2_inTimeOnDays 84 = .ok (.iload 5, 2) := by decide +kernel
theorem dX2_inTimeOnDays_86 : decode cX2_inTimeOnDays 86 = .ok (.aload_n 0, 1) := by decide +kernel
theorem dX2_inTimeOnDays_87 : decode cX2_inTimeOnDays 87 = .ok (.getfield 24, 3) := by decide +kernel
theorem dX2_inTimeOnDays_90 : decode cX2_inTimeOnDays 90 = .ok (.getfield 127, 3) := by decide +kernel
theorem dX2_inTimeOnDays_93 : decode cX2_inTimeOnDays 93 = .ok (.if_icmp .ge 26, 3) := by decide +kernel
theorem dX2_inTimeOnDays_96 : decode cX2_inTimeOnDays 96 = .ok (.iload_n 3, 1) := by decide +kernel
theorem dX2_inTimeOnDays_97 : decode cX2_inTimeOnDays 97 = .ok (.aload_n 0, 1) := by decide +kernel
theorem dX2_inTimeOnDays_98 : decode cX2_inTimeOnDays 98 = .ok (.iload 5, 2) := by decide +kernel
theorem dX2_inTimeOnDays_100 : decode cX2_inTimeOnDays 100 = .ok (.invokevirtual 140, 3) := by decide +kernel
theorem dX2_inTimeOnDays_103 : decode cX2_inTimeOnDays 103 = .ok (.ifCond .eq 7, 3) := by decide +kernel
theorem dX2_inTimeOnDays_106 : decode cX2_inTimeOnDays 106 = .ok (.iconst 1, 1) := by decide +kernel
theorem dX2_inTimeOnDays_107 : decode cX2_inTimeOnDays 107 = .ok (.goto 4, 3) := by decide +kernel
theorem dX2_inTimeOnDays_110 : decode cX2_inTimeOnDays 110 = .ok (.iconst 0, 1) := by decide +kernel
theorem dX2_inTimeOnDays_111 : decode cX2_inTimeOnDays 111 = .ok (.iadd, 1) := by decide +kernel
theorem dX2_inTimeOnDays_112 : decode cX2_inTimeOnDays 112 = .ok (.istore_n 3, 1) := by decide +kernel
theorem dX2_inTimeOnDays_113 : decode cX2_inTimeOnDays 113 = .ok (.iinc 5 1, 3) := by decide +kernel
theorem dX2_inTimeOnDays_116 : decode cX2_inTimeOnDays 116 = .ok (.goto (-32), 3) := by decide +kernel
theorem dX2_inTimeOnDays_119 : decode cX2_inTimeOnDays 119 = .ok (.iinc 4 1, 3) := by decide +kernel
theorem dX2_inTimeOnDays_122 : decode cX2_inTimeOnDays 122 = .ok (.goto (-112), 3) := by decide +kernel
theorem dX2_inTimeOnDays_125 : decode cX2_inTimeOnDays 125 = .ok (.iload_n 3, 1) := by decide +kernel
theorem dX2_inTimeOnDays_126 : decode cX2_inTimeOnDays 126 = .ok (.ireturn, 1) := by decide +kernel
theorem dX2_drawFrom_0 : decode cX2_drawFrom 0 = .ok (.aload_n 0, 1) := by decide +kernel
theorem dX2_drawFrom_1 : decode cX2_drawFrom 1 = .ok (.aload_n 0, 1) := by decide +kernel
theorem dX2_drawFrom_2 : decode cX2_drawFrom 2 = .ok (.getfield 134, 3) := by decide +kernel
theorem dX2_drawFrom_5 : decode cX2_drawFrom 5 = .ok (.ldc 144, 2) := by decide +kernel
theorem dX2_drawFrom_7 : decode cX2_drawFrom 7 = .ok (.imul, 1) := by decide +kernel
theorem dX2_drawFrom_8 : decode cX2_drawFrom 8 = .ok (.ldc 145, 2) := by decide +kernel
theorem dX2_drawFrom_10 : decode cX2_drawFrom 10 = .ok (.iadd, 1) := by decide +kernel
theorem dX2_drawFrom_11 : decode cX2_drawFrom 11 = .ok (.putfield 134, 3) := by decide +kernel
theorem dX2_drawFrom_14 : decode cX2_drawFrom 14 = .ok (.aload_n 0, 1) := by decide +kernel
theorem dX2_drawFrom_15 : decode cX2_drawFrom 15 = .ok (.getfield 134, 3) := by decide +kernel
theorem dX2_drawFrom_18 : decode cX2_drawFrom 18 = .ok (.ldc 146, 2) := by decide +kernel
theorem dX2_drawFrom_20 : decode cX2_drawFrom 20 = .ok (.iand, 1) := by decide +kernel
theorem dX2_drawFrom_21 : decode cX2_drawFrom 21 = .ok (.sipush 256, 3) := by decide +kernel
theorem dX2_drawFrom_24 : decode cX2_drawFrom 24 = .ok (.idiv, 1) := by decide +kernel
theorem dX2_drawFrom_25 : decode cX2_drawFrom 25 = .ok (.sipush 721, 3) := by decide +kernel
theorem dX2_drawFrom_28 : decode cX2_drawFrom 28 = .ok (.irem, 1) := by decide +kernel
theorem dX2_drawFrom_29 : decode cX2_drawFrom 29 = .ok (.ireturn, 1) := by decide +kernel
theorem dX3_init_0 : decode cX3_init 0 = .ok (.aload_n 0, 1) := by decide +kernel
theorem dX3_init_1 : decode cX3_init 1 = .ok (.invokespecial 1, 3) := by decide +kernel
theorem dX3_init_4 : decode cX3_init 4 = .ok (.return_, 1) := by decide +kernel
theorem dX3_becomeLike_0 : decode cX3_becomeLike 0 = .ok (.aload_n 0, 1) := by decide +kernel
theorem dX3_becomeLike_1 : decode cX3_becomeLike 1 = .ok (.aload_n 1, 1) := by decide +kernel
theorem dX3_becomeLike_2 : decode cX3_becomeLike 2 = .ok (.getfield 7, 3) := by decide +kernel
theorem dX3_becomeLike_5 : decode cX3_becomeLike 5 = .ok (.putfield 7, 3) := by decide +kernel
theorem dX3_becomeLike_8 : decode cX3_becomeLike 8 = .ok (.aload_n 0, 1) := by decide +kernel
theorem dX3_becomeLike_9 : decode cX3_becomeLike 9 = .ok (.aload_n 1, 1) := by decide +kernel
theorem dX3_becomeLike_10 : decode cX3_becomeLike 10 = .ok (.getfield 13, 3) := by decide +kernel
theorem dX3_becomeLike_13 : decode cX3_becomeLike 13 = .ok (.putfield 13, 3) := by decide +kernel
theorem dX3_becomeLike_16 : decode cX3_becomeLike 16 = .ok (.aload_n 0, 1) := by decide +kernel
theorem dX3_becomeLike_17 : decode cX3_becomeLike 17 = .ok (.aload_n 1, 1) := by decide +kernel
theorem dX3_becomeLike_18 : decode cX3_becomeLike 18 = .ok (.getfield 16, 3) := by decide +kernel
theorem dX3_becomeLike_21 : decode cX3_becomeLike 21 = .ok (.putfield 16, 3) := by decide +kernel
theorem dX3_becomeLike_24 : decode cX3_becomeLike 24 = .ok (.aload_n 0, 1) := by decide +kernel
theorem dX3_becomeLike_25 : decode cX3_becomeLike 25 = .ok (.aload_n 1, 1) := by decide +kernel
theorem dX3_becomeLike_26 : decode cX3_becomeLike 26 = .ok (.getfield 19, 3) := by decide +kernel
theorem dX3_becomeLike_29 : decode cX3_becomeLike 29 = .ok (.putfield 19, 3) := by decide +kernel
theorem dX3_becomeLike_32 : decode cX3_becomeLike 32 = .ok (.aload_n 0, 1) := by decide +kernel
theorem dX3_becomeLike_33 : decode cX3_becomeLike 33 = .ok (.aload_n 1, 1) := by decide +kernel
theorem dX3_becomeLike_34 : decode cX3_becomeLike 34 = .ok (.getfield 22, 3) := by decide +kernel
theorem dX3_becomeLike_37 : decode cX3_becomeLike 37 = .ok (.putfield 22, 3) := by decide +kernel
theorem dX3_becomeLike_40 : decode cX3_becomeLike 40 = .ok (.aload_n 0, 1) := by decide +kernel
theorem dX3_becomeLike_41 : decode cX3_becomeLike 41 = .ok (.aload_n 1, 1) := by decide +kernel
theorem dX3_becomeLike_42 : decode cX3_becomeLike 42 = .ok (.getfield 25, 3) := by decide +kernel
theorem dX3_becomeLike_45 : decode cX3_becomeLike 45 = .ok (.putfield 25, 3) := by decide +kernel
theorem dX3_becomeLike_48 : decode cX3_becomeLike 48 = .ok (.aload_n 0, 1) := by decide +kernel
theorem dX3_becomeLike_49 : decode cX3_becomeLike 49 = .ok (.aload_n 1, 1) := by decide +kernel
theorem dX3_becomeLike_50 : decode cX3_becomeLike 50 = .ok (.getfield 28, 3) := by decide +kernel
theorem dX3_becomeLike_53 : decode cX3_becomeLike 53 = .ok (.putfield 28, 3) := by decide +kernel
theorem dX3_becomeLike_56 : decode cX3_becomeLike 56 = .ok (.return_, 1) := by decide +kernel
theorem dX3_tellOf_0 : decode cX3_tellOf 0 = .ok (.iload_n 1, 1) := by decide +kernel
theorem dX3_tellOf_1 : decode cX3_tellOf 1 = .ok (.tableswitch 69 0 5 #[39, 44, 49, 54, 59, 64], 39) := by decide +kernel
theorem dX3_tellOf_40 : decode cX3_tellOf 40 = .ok (.aload_n 0, 1) := by decide +kernel
theorem dX3_tellOf_41 : decode cX3_tellOf 41 = .ok (.getfield 7, 3) := by decide +kernel
theorem dX3_tellOf_44 : decode cX3_tellOf 44 = .ok (.ireturn, 1) := by decide +kernel
theorem dX3_tellOf_45 : decode cX3_tellOf 45 = .ok (.aload_n 0, 1) := by decide +kernel
theorem dX3_tellOf_46 : decode cX3_tellOf 46 = .ok (.getfield 13, 3) := by decide +kernel
theorem dX3_tellOf_49 : decode cX3_tellOf 49 = .ok (.ireturn, 1) := by decide +kernel
theorem dX3_tellOf_50 : decode cX3_tellOf 50 = .ok (.aload_n 0, 1) := by decide +kernel
theorem dX3_tellOf_51 : decode cX3_tellOf 51 = .ok (.getfield 16, 3) := by decide +kernel
theorem dX3_tellOf_54 : decode cX3_tellOf 54 = .ok (.ireturn, 1) := by decide +kernel
theorem dX3_tellOf_55 : decode cX3_tellOf 55 = .ok (.aload_n 0, 1) := by decide +kernel
theorem dX3_tellOf_56 : decode cX3_tellOf 56 = .ok (.getfield 19, 3) := by decide +kernel
theorem dX3_tellOf_59 : decode cX3_tellOf 59 = .ok (.ireturn, 1) := by decide +kernel
theorem dX3_tellOf_60 : decode cX3_tellOf 60 = .ok (.aload_n 0, 1) := by decide +kernel
theorem dX3_tellOf_61 : decode cX3_tellOf 61 = .ok (.getfield 22, 3) := by decide +kernel
theorem dX3_tellOf_64 : decode cX3_tellOf 64 = .ok (.ireturn, 1) := by decide +kernel
theorem dX3_tellOf_65 : decode cX3_tellOf 65 = .ok (.aload_n 0, 1) := by decide +kernel
theorem dX3_tellOf_66 : decode cX3_tellOf 66 = .ok (.getfield 25, 3) := by decide +kernel
theorem dX3_tellOf_69 : decode cX3_tellOf 69 = .ok (.ireturn, 1) := by decide +kernel
theorem dX3_tellOf_70 : decode cX3_tellOf 70 = .ok (.aload_n 0, 1) := by decide +kernel
theorem dX3_tellOf_71 : decode cX3_tellOf 71 = .ok (.getfield 28, 3) := by decide +kernel
theorem dX3_tellOf_74 : decode cX3_tellOf 74 = .ok (.ireturn, 1) := by decide +kernel
theorem dX4_init_0 : decode cX4_init 0 = .ok (.aload_n 0, 1) := by decide +kernel
theorem dX4_init_1 : decode cX4_init 1 = .ok (.invokespecial 1, 3) := by decide +kernel
theorem dX4_init_4 : decode cX4_init 4 = .ok (.return_, 1) := by decide +kernel
theorem dX4_becomeLike_0 : decode cX4_becomeLike 0 = .ok (.aload_n 0, 1) := by decide +kernel
theorem dX4_becomeLike_1 : decode cX4_becomeLike 1 = .ok (.aload_n 1, 1) := by decide +kernel
theorem dX4_becomeLike_2 : decode cX4_becomeLike 2 = .ok (.getfield 7, 3) := by decide +kernel
theorem dX4_becomeLike_5 : decode cX4_becomeLike 5 = .ok (.putfield 7, 3) := by decide +kernel
theorem dX4_becomeLike_8 : decode cX4_becomeLike 8 = .ok (.aload_n 0, 1) := by decide +kernel
theorem dX4_becomeLike_9 : decode cX4_becomeLike 9 = .ok (.aload_n 1, 1) := by decide +kernel
theorem dX4_becomeLike_10 : decode cX4_becomeLike 10 = .ok (.getfield 13, 3) := by decide +kernel
theorem dX4_becomeLike_13 : decode cX4_becomeLike 13 = .ok (.putfield 13, 3) := by decide +kernel
theorem dX4_becomeLike_16 : decode cX4_becomeLike 16 = .ok (.aload_n 0, 1) := by decide +kernel
theorem dX4_becomeLike_17 : decode cX4_becomeLike 17 = .ok (.aload_n 1, 1) := by decide +kernel
theorem dX4_becomeLike_18 : decode cX4_becomeLike 18 = .ok (.getfield 16, 3) := by decide +kernel
theorem dX4_becomeLike_21 : decode cX4_becomeLike 21 = .ok (.putfield 16, 3) := by decide +kernel
theorem dX4_becomeLike_24 : decode cX4_becomeLike 24 = .ok (.aload_n 0, 1) := by decide +kernel
theorem dX4_becomeLike_25 : decode cX4_becomeLike 25 = .ok (.aload_n 1, 1) := by decide +kernel
theorem dX4_becomeLike_26 : decode cX4_becomeLike 26 = .ok (.getfield 19, 3) := by decide +kernel
theorem dX4_becomeLike_29 : decode cX4_becomeLike 29 = .ok (.putfield 19, 3) := by decide +kernel
theorem dX4_becomeLike_32 : decode cX4_becomeLike 32 = .ok (.aload_n 0, 1) := by decide +kernel
theorem dX4_becomeLike_33 : decode cX4_becomeLike 33 = .ok (.aload_n 1, 1) := by decide +kernel
theorem dX4_becomeLike_34 : decode cX4_becomeLike 34 = .ok (.getfield 22, 3) := by decide +kernel
theorem dX4_becomeLike_37 : decode cX4_becomeLike 37 = .ok (.putfield 22, 3) := by decide +kernel
theorem dX4_becomeLike_40 : decode cX4_becomeLike 40 = .ok (.aload_n 0, 1) := by decide +kernel
theorem dX4_becomeLike_41 : decode cX4_becomeLike 41 = .ok (.aload_n 1, 1) := by decide +kernel
theorem dX4_becomeLike_42 : decode cX4_becomeLike 42 = .ok (.getfield 25, 3) := by decide +kernel
theorem dX4_becomeLike_45 : decode cX4_becomeLike 45 = .ok (.putfield 25, 3) := by decide +kernel
theorem dX4_becomeLike_48 : decode cX4_becomeLike 48 = .ok (.aload_n 0, 1) := by decide +kernel
theorem dX4_becomeLike_49 : decode cX4_becomeLike 49 = .ok (.aload_n 1, 1) := by decide +kernel
theorem dX4_becomeLike_50 : decode cX4_becomeLike 50 = .ok (.getfield 28, 3) := by decide +kernel
theorem dX4_becomeLike_53 : decode cX4_becomeLike 53 = .ok (.putfield 28, 3) := by decide +kernel
theorem dX4_becomeLike_56 : decode cX4_becomeLike 56 = .ok (.aload_n 0, 1) := by decide +kernel
theorem dX4_becomeLike_57 : decode cX4_becomeLike 57 = .ok (.aload_n 1, 1) := by decide +kernel
theorem dX4_becomeLike_58 : decode cX4_becomeLike 58 = .ok (.getfield 31, 3) := by decide +kernel
theorem dX4_becomeLike_61 : decode cX4_becomeLike 61 = .ok (.putfield 31, 3) := by decide +kernel
theorem dX4_becomeLike_64 : decode cX4_becomeLike 64 = .ok (.aload_n 0, 1) := by decide +kernel
theorem dX4_becomeLike_65 : decode cX4_becomeLike 65 = .ok (.aload_n 1, 1) := by decide +kernel
theorem dX4_becomeLike_66 : decode cX4_becomeLike 66 = .ok (.getfield 34, 3) := by decide +kernel
theorem dX4_becomeLike_69 : decode cX4_becomeLike 69 = .ok (.putfield 34, 3) := by decide +kernel
theorem dX4_becomeLike_72 : decode cX4_becomeLike 72 = .ok (.aload_n 0, 1) := by decide +kernel
theorem dX4_becomeLike_73 : decode cX4_becomeLike 73 = .ok (.aload_n 1, 1) := by decide +kernel
theorem dX4_becomeLike_74 : decode cX4_becomeLike 74 = .ok (.getfield 37, 3) := by decide +kernel
theorem dX4_becomeLike_77 : decode cX4_becomeLike 77 = .ok (.putfield 37, 3) := by decide +kernel
theorem dX4_becomeLike_80 : decode cX4_becomeLike 80 = .ok (.return_, 1) := by decide +kernel
theorem dX4_isOf_0 : decode cX4_isOf 0 = .ok (.iload_n 1, 1) := by decide +kernel
theorem dX4_isOf_1 : decode cX4_isOf 1 = .ok (.aload_n 0, 1) := by decide +kernel
theorem dX4_isOf_2 : decode cX4_isOf 2 = .ok (.getfield 7, 3) := by decide +kernel
theorem dX4_isOf_5 : decode cX4_isOf 5 = .ok (.if_icmp .eq 11, 3) := by decide +kernel
theorem dX4_isOf_8 : decode cX4_isOf 8 = .ok (.iload_n 1, 1) := by decide +kernel
theorem dX4_isOf_9 : decode cX4_isOf 9 = .ok (.aload_n 0, 1) := by decide +kernel
theorem dX4_isOf_10 : decode cX4_isOf 10 = .ok (.getfield 13, 3) := by decide +kernel
theorem dX4_isOf_13 : decode cX4_isOf 13 = .ok (.if_icmp .ne 7, 3) := by decide +kernel
theorem dX4_isOf_16 : decode cX4_isOf 16 = .ok (.iconst 1, 1) := by decide +kernel
theorem dX4_isOf_17 : decode cX4_isOf 17 = .ok (.goto 4, 3) := by decide +kernel
theorem dX4_isOf_20 : decode cX4_isOf 20 = .ok (.iconst 0, 1) := by decide +kernel
theorem dX4_isOf_21 : decode cX4_isOf 21 = .ok (.ireturn, 1) := by decide +kernel
theorem dX4_tellOf_0 : decode cX4_tellOf 0 = .ok (.iload_n 1, 1) := by decide +kernel
theorem dX4_tellOf_1 : decode cX4_tellOf 1 = .ok (.tableswitch 96 0 8 #[51, 56, 61, 66, 71, 76, 81, 86, 91], 51) := by decide +kernel
theorem dX4_tellOf_52 : decode cX4_tellOf 52 = .ok (.aload_n 0, 1) := by decide +kernel
theorem dX4_tellOf_53 : decode cX4_tellOf 53 = .ok (.getfield 7, 3) := by decide +kernel
theorem dX4_tellOf_56 : decode cX4_tellOf 56 = .ok (.ireturn, 1) := by decide +kernel
theorem dX4_tellOf_57 : decode cX4_tellOf 57 = .ok (.aload_n 0, 1) := by decide +kernel
theorem dX4_tellOf_58 : decode cX4_tellOf 58 = .ok (.getfield 13, 3) := by decide +kernel
theorem dX4_tellOf_61 : decode cX4_tellOf 61 = .ok (.ireturn, 1) := by decide +kernel
theorem dX4_tellOf_62 : decode cX4_tellOf 62 = .ok (.aload_n 0, 1) := by decide +kernel
theorem dX4_tellOf_63 : decode cX4_tellOf 63 = .ok (.getfield 16, 3) := by decide +kernel
theorem dX4_tellOf_66 : decode cX4_tellOf 66 = .ok (.ireturn, 1) := by decide +kernel
theorem dX4_tellOf_67 : decode cX4_tellOf 67 = .ok (.aload_n 0, 1) := by decide +kernel
theorem dX4_tellOf_68 : decode cX4_tellOf 68 = .ok (.getfield 19, 3) := by decide +kernel
theorem dX4_tellOf_71 : decode cX4_tellOf 71 = .ok (.ireturn, 1) := by decide +kernel
theorem dX4_tellOf_72 : decode cX4_tellOf 72 = .ok (.aload_n 0, 1) := by decide +kernel
theorem dX4_tellOf_73 : decode cX4_tellOf 73 = .ok (.getfield 22, 3) := by decide +kernel
theorem dX4_tellOf_76 : decode cX4_tellOf 76 = .ok (.ireturn, 1) := by decide +kernel
theorem dX4_tellOf_77 : decode cX4_tellOf 77 = .ok (.aload_n 0, 1) := by decide +kernel
theorem dX4_tellOf_78 : decode cX4_tellOf 78 = .ok (.getfield 25, 3) := by decide +kernel
theorem dX4_tellOf_81 : decode cX4_tellOf 81 = .ok (.ireturn, 1) := by decide +kernel
theorem dX4_tellOf_82 : decode cX4_tellOf 82 = .ok (.aload_n 0, 1) := by decide +kernel
theorem dX4_tellOf_83 : decode cX4_tellOf 83 = .ok (.getfield 28, 3) := by decide +kernel
theorem dX4_tellOf_86 : decode cX4_tellOf 86 = .ok (.ireturn, 1) := by decide +kernel
theorem dX4_tellOf_87 : decode cX4_tellOf 87 = .ok (.aload_n 0, 1) := by decide +kernel
theorem dX4_tellOf_88 : decode cX4_tellOf 88 = .ok (.getfield 31, 3) := by decide +kernel
theorem dX4_tellOf_91 : decode cX4_tellOf 91 = .ok (.ireturn, 1) := by decide +kernel
theorem dX4_tellOf_92 : decode cX4_tellOf 92 = .ok (.aload_n 0, 1) := by decide +kernel
theorem dX4_tellOf_93 : decode cX4_tellOf 93 = .ok (.getfield 34, 3) := by decide +kernel
theorem dX4_tellOf_96 : decode cX4_tellOf 96 = .ok (.ireturn, 1) := by decide +kernel
theorem dX4_tellOf_97 : decode cX4_tellOf 97 = .ok (.aload_n 0, 1) := by decide +kernel
theorem dX4_tellOf_98 : decode cX4_tellOf 98 = .ok (.getfield 37, 3) := by decide +kernel
theorem dX4_tellOf_101 : decode cX4_tellOf 101 = .ok (.ireturn, 1) := by decide +kernel
theorem dX5_init_0 : decode cX5_init 0 = .ok (.aload_n 0, 1) := by decide +kernel
theorem dX5_init_1 : decode cX5_init 1 = .ok (.invokespecial 3, 3) := by decide +kernel
theorem dX5_init_4 : decode cX5_init 4 = .ok (.aload_n 0, 1) := by decide +kernel
theorem dX5_init_5 : decode cX5_init 5 = .ok (.bipush 6, 2) := by decide +kernel
theorem dX5_init_7 : decode cX5_init 7 = .ok (.anewarray 9, 3) := by decide +kernel
theorem dX5_init_10 : decode cX5_init 10 = .ok (.putfield 11, 3) := by decide +kernel
theorem dX5_init_13 : decode cX5_init 13 = .ok (.aload_n 0, 1) := by decide +kernel
theorem dX5_init_14 : decode cX5_init 14 = .ok (.bipush 6, 2) := by decide +kernel
theorem dX5_init_16 : decode cX5_init 16 = .ok (.anewarray 17, 3) := by decide +kernel
theorem dX5_init_19 : decode cX5_init 19 = .ok (.putfield 19, 3) := by decide +kernel
theorem dX5_init_22 : decode cX5_init 22 = .ok (.aload_n 0, 1) := by decide +kernel
theorem dX5_init_23 : decode cX5_init 23 = .ok (.bipush 49, 2) := by decide +kernel
theorem dX5_init_25 : decode cX5_init 25 = .ok (.newarray .int, 2) := by decide +kernel
theorem dX5_init_27 : decode cX5_init 27 = .ok (.putfield 23, 3) := by decide +kernel
theorem dX5_init_30 : decode cX5_init 30 = .ok (.aload_n 0, 1) := by decide +kernel
theorem dX5_init_31 : decode cX5_init 31 = .ok (.bipush 49, 2) := by decide +kernel
theorem dX5_init_33 : decode cX5_init 33 = .ok (.newarray .int, 2) := by decide +kernel
theorem dX5_init_35 : decode cX5_init 35 = .ok (.putfield 27, 3) := by decide +kernel
theorem dX5_init_38 : decode cX5_init 38 = .ok (.aload_n 0, 1) := by decide +kernel
theorem dX5_init_39 : decode cX5_init 39 = .ok (.iconst 4, 1) := by decide +kernel
theorem dX5_init_40 : decode cX5_init 40 = .ok (.putfield 30, 3) := by decide +kernel
theorem dX5_init_43 : decode cX5_init 43 = .ok (.iconst 0, 1) := by decide +kernel
theorem dX5_init_44 : decode cX5_init 44 = .ok (.istore_n 1, 1) := by decide +kernel
theorem dX5_init_45 : decode cX5_init 45 = .ok (.iload_n 1, 1) := by decide +kernel
theorem dX5_init_46 : decode cX5_init 46 = .ok (.bipush 6, 2) := by decide +kernel
theorem dX5_init_48 : decode cX5_init 48 = .ok (.if_icmp .ge 22, 3) := by decide +kernel
theorem dX5_init_51 : decode cX5_init 51 = .ok (.aload_n 0, 1) := by decide +kernel
theorem dX5_init_52 : decode cX5_init 52 = .ok (.getfield 11, 3) := by decide +kernel
theorem dX5_init_55 : decode cX5_init 55 = .ok (.iload_n 1, 1) := by decide +kernel
theorem dX5_init_56 : decode cX5_init 56 = .ok (.new 9, 3) := by decide +kernel
theorem dX5_init_59 : decode cX5_init 59 = .ok (.dup, 1) := by decide +kernel
theorem dX5_init_60 : decode cX5_init 60 = .ok (.invokespecial 34, 3) := by decide +kernel
theorem dX5_init_63 : decode cX5_init 63 = .ok (.aastore, 1) := by decide +kernel
theorem dX5_init_64 : decode cX5_init 64 = .ok (.iinc 1 1, 3) := by decide +kernel
theorem dX5_init_67 : decode cX5_init 67 = .ok (.goto (-22), 3) := by decide +kernel
theorem dX5_init_70 : decode cX5_init 70 = .ok (.iconst 0, 1) := by decide +kernel
theorem dX5_init_71 : decode cX5_init 71 = .ok (.istore_n 1, 1) := by decide +kernel
theorem dX5_init_72 : decode cX5_init 72 = .ok (.iload_n 1, 1) := by decide +kernel
theorem dX5_init_73 : decode cX5_init 73 = .ok (.bipush 6, 2) := by decide +kernel
theorem dX5_init_75 : decode cX5_init 75 = .ok (.if_icmp .ge 22, 3) := by decide +kernel
theorem dX5_init_78 : decode cX5_init 78 = .ok (.aload_n 0, 1) := by decide +kernel
theorem dX5_init_79 : decode cX5_init 79 = .ok (.getfield 19, 3) := by decide +kernel
theorem dX5_init_82 : decode cX5_init 82 = .ok (.iload_n 1, 1) := by decide +kernel
theorem dX5_init_83 : decode cX5_init 83 = .ok (.new 17, 3) := by decide +kernel
theorem dX5_init_86 : decode cX5_init 86 = .ok (.dup, 1) := by decide +kernel
theorem dX5_init_87 : decode cX5_init 87 = .ok (.invokespecial 35, 3) := by decide +kernel
theorem dX5_init_90 : decode cX5_init 90 = .ok (.aastore, 1) := by decide +kernel
theorem dX5_init_91 : decode cX5_init 91 = .ok (.iinc 1 1, 3) := by decide +kernel
theorem dX5_init_94 : decode cX5_init 94 = .ok (.goto (-22), 3) := by decide +kernel
theorem dX5_init_97 : decode cX5_init 97 = .ok (.aload_n 0, 1) := by decide +kernel
theorem dX5_init_98 : decode cX5_init 98 = .ok (.invokevirtual 36, 3) := by decide +kernel
theorem dX5_init_101 : decode cX5_init 101 = .ok (.return_, 1) := by decide +kernel
theorem dX5_becomeLike_0 : decode cX5_becomeLike 0 = .ok (.iconst 0, 1) := by decide +kernel
theorem dX5_becomeLike_1 : decode cX5_becomeLike 1 = .ok (.istore_n 2, 1) := by decide +kernel
theorem dX5_becomeLike_2 : decode cX5_becomeLike 2 = .ok (.iload_n 2, 1) := by decide +kernel
theorem dX5_becomeLike_3 : decode cX5_becomeLike 3 = .ok (.bipush 6, 2) := by decide +kernel
theorem dX5_becomeLike_5 : decode cX5_becomeLike 5 = .ok (.if_icmp .ge 24, 3) := by decide +kernel
theorem dX5_becomeLike_8 : decode cX5_becomeLike 8 = .ok (.aload_n 0, 1) := by decide +kernel
theorem dX5_becomeLike_9 : decode cX5_becomeLike 9 = .ok (.getfield 11, 3) := by decide +kernel
theorem dX5_becomeLike_12 : decode cX5_becomeLike 12 = .ok (.iload_n 2, 1) := by decide +kernel
theorem dX5_becomeLike_13 : decode cX5_becomeLike 13 = .ok (.aaload, 1) := by decide +kernel
theorem dX5_becomeLike_14 : decode cX5_becomeLike 14 = .ok (.aload_n 1, 1) := by decide +kernel
theorem dX5_becomeLike_15 : decode cX5_becomeLike 15 = .ok (.getfield 11, 3) := by decide +kernel
theorem dX5_becomeLike_18 : decode cX5_becomeLike 18 = .ok (.iload_n 2, 1) := by decide +kernel
theorem dX5_becomeLike_19 : decode cX5_becomeLike 19 = .ok (.aaload, 1) := by decide +kernel
theorem dX5_becomeLike_20 : decode cX5_becomeLike 20 = .ok (.invokevirtual 39, 3) := by decide +kernel
theorem dX5_becomeLike_23 : decode cX5_becomeLike 23 = .ok (.iinc 2 1, 3) := by decide +kernel
theorem dX5_becomeLike_26 : decode cX5_becomeLike 26 = .ok (.goto (-24), 3) := by decide +kernel
theorem dX5_becomeLike_29 : decode cX5_becomeLike 29 = .ok (.iconst 0, 1) := by decide +kernel
theorem dX5_becomeLike_30 : decode cX5_becomeLike 30 = .ok (.istore_n 2, 1) := by decide +kernel
theorem dX5_becomeLike_31 : decode cX5_becomeLike 31 = .ok (.iload_n 2, 1) := by decide +kernel
theorem dX5_becomeLike_32 : decode cX5_becomeLike 32 = .ok (.bipush 6, 2) := by decide +kernel
theorem dX5_becomeLike_34 : decode cX5_becomeLike 34 = .ok (.if_icmp .ge 24, 3) := by decide +kernel
theorem dX5_becomeLike_37 : decode cX5_becomeLike 37 = .ok (.aload_n 0, 1) := by decide +kernel
theorem dX5_becomeLike_38 : decode cX5_becomeLike 38 = .ok (.getfield 19, 3) := by decide +kernel
theorem dX5_becomeLike_41 : decode cX5_becomeLike 41 = .ok (.iload_n 2, 1) := by decide +kernel
theorem dX5_becomeLike_42 : decode cX5_becomeLike 42 = .ok (.aaload, 1) := by decide +kernel
theorem dX5_becomeLike_43 : decode cX5_becomeLike 43 = .ok (.aload_n 1, 1) := by decide +kernel
theorem dX5_becomeLike_44 : decode cX5_becomeLike 44 = .ok (.getfield 19, 3) := by decide +kernel
theorem dX5_becomeLike_47 : decode cX5_becomeLike 47 = .ok (.iload_n 2, 1) := by decide +kernel
theorem dX5_becomeLike_48 : decode cX5_becomeLike 48 = .ok (.aaload, 1) := by decide +kernel
theorem dX5_becomeLike_49 : decode cX5_becomeLike 49 = .ok (.invokevirtual 43, 3) := by decide +kernel
theorem dX5_becomeLike_52 : decode cX5_becomeLike 52 = .ok (.iinc 2 1, 3) := by decide +kernel
theorem dX5_becomeLike_55 : decode cX5_becomeLike 55 = .ok (.goto (-24), 3) := by decide +kernel
theorem dX5_becomeLike_58 : decode cX5_becomeLike 58 = .ok (.aload_n 1, 1) := by decide +kernel
theorem dX5_becomeLike_59 : decode cX5_becomeLike 59 = .ok (.getfield 23, 3) := by decide +kernel
theorem dX5_becomeLike_62 : decode cX5_becomeLike 62 = .ok (.iconst 0, 1) := by decide +kernel
theorem dX5_becomeLike_63 : decode cX5_becomeLike 63 = .ok (.aload_n 0, 1) := by decide +kernel
theorem dX5_becomeLike_64 : decode cX5_becomeLike 64 = .ok (.getfield 23, 3) := by decide +kernel
theorem dX5_becomeLike_67 : decode cX5_becomeLike 67 = .ok (.iconst 0, 1) := by decide +kernel
theorem dX5_becomeLike_68 : decode cX5_becomeLike 68 = .ok (.aload_n 0, 1) := by decide +kernel
theorem dX5_becomeLike_69 : decode cX5_becomeLike 69 = .ok (.getfield 23, 3) := by decide +kernel
theorem dX5_becomeLike_72 : decode cX5_becomeLike 72 = .ok (.arraylength, 1) := by decide +kernel
theorem dX5_becomeLike_73 : decode cX5_becomeLike 73 = .ok (.invokestatic 46, 3) := by decide +kernel
theorem dX5_becomeLike_76 : decode cX5_becomeLike 76 = .ok (.aload_n 1, 1) := by decide +kernel
theorem dX5_becomeLike_77 : decode cX5_becomeLike 77 = .ok (.getfield 27, 3) := by decide +kernel
theorem dX5_becomeLike_80 : decode cX5_becomeLike 80 = .ok (.iconst 0, 1) := by decide +kernel
theorem dX5_becomeLike_81 : decode cX5_becomeLike 81 = .ok (.aload_n 0, 1) := by decide +kernel
theorem dX5_becomeLike_82 : decode cX5_becomeLike 82 = .ok (.getfield 27, 3) := by decide +kernel
theorem dX5_becomeLike_85 : decode cX5_becomeLike 85 = .ok (.iconst 0, 1) := by decide +kernel
theorem dX5_becomeLike_86 : decode cX5_becomeLike 86 = .ok (.aload_n 0, 1) := by decide +kernel
theorem dX5_becomeLike_87 : decode cX5_becomeLike 87 = .ok (.getfield 27, 3) := by decide +kernel
theorem dX5_becomeLike_90 : decode cX5_becomeLike 90 = .ok (.arraylength, 1) := by decide +kernel
theorem dX5_becomeLike_91 : decode cX5_becomeLike 91 = .ok (.invokestatic 46, 3) := by decide +kernel
theorem dX5_becomeLike_94 : decode cX5_becomeLike 94 = .ok (.aload_n 0, 1) := by decide +kernel
theorem dX5_becomeLike_95 : decode cX5_becomeLike 95 = .ok (.aload_n 1, 1) := by decide +kernel
theorem dX5_becomeLike_96 : decode cX5_becomeLike 96 = .ok (.getfield 30, 3) := by decide +kernel
theorem dX5_becomeLike_99 : decode cX5_becomeLike 99 = .ok (.putfield 30, 3) := by decide +kernel
theorem dX5_becomeLike_102 : decode cX5_becomeLike 102 = .ok (.aload_n 0, 1) := by decide +kernel
theorem dX5_becomeLike_103 : decode cX5_becomeLike 103 = .ok (.aload_n 1, 1) := by decide +kernel
theorem dX5_becomeLike_104 : decode cX5_becomeLike 104 = .ok (.getfield 52, 3) := by decide +kernel
theorem dX5_becomeLike_107 : decode cX5_becomeLike 107 = .ok (.putfield 52, 3) := by decide +kernel
theorem dX5_becomeLike_110 : decode cX5_becomeLike 110 = .ok (.aload_n 0, 1) := by decide +kernel
theorem dX5_becomeLike_111 : decode cX5_becomeLike 111 = .ok (.aload_n 1, 1) := by decide +kernel
theorem dX5_becomeLike_112 : decode cX5_becomeLike 112 = .ok (.getfield 55, 3) := by decide +kernel
theorem dX5_becomeLike_115 : decode cX5_becomeLike 115 = .ok (.putfield 55, 3) := by decide +kernel
theorem dX5_becomeLike_118 : decode cX5_becomeLike 118 = .ok (.aload_n 0, 1) := by decide +kernel
theorem dX5_becomeLike_119 : decode cX5_becomeLike 119 = .ok (.aload_n 1, 1) := by decide +kernel
theorem dX5_becomeLike_120 : decode cX5_becomeLike 120 = .ok (.getfield 58, 3) := by decide +kernel
theorem dX5_becomeLike_123 : decode cX5_becomeLike 123 = .ok (.putfield 58, 3) := by decide +kernel
theorem dX5_becomeLike_126 : decode cX5_becomeLike 126 = .ok (.return_, 1) := by decide +kernel
theorem dX5_isPlace_0 : decode cX5_isPlace 0 = .ok (.iload_n 1, 1) := by decide +kernel
theorem dX5_isPlace_1 : decode cX5_isPlace 1 = .ok (.ifCond .lt 15, 3) := by decide +kernel
theorem dX5_isPlace_4 : decode cX5_isPlace 4 = .ok (.iload_n 1, 1) := by decide +kernel
theorem dX5_isPlace_5 : decode cX5_isPlace 5 = .ok (.aload_n 0, 1) := by decide +kernel
theorem dX5_isPlace_6 : decode cX5_isPlace 6 = .ok (.getfield 30, 3) := by decide +kernel
theorem dX5_isPlace_9 : decode cX5_isPlace 9 = .ok (.if_icmp .ge 7, 3) := by decide +kernel
theorem dX5_isPlace_12 : decode cX5_isPlace 12 = .ok (.iconst 1, 1) := by decide +kernel
theorem dX5_isPlace_13 : decode cX5_isPlace 13 = .ok (.goto 4, 3) := by decide +kernel
theorem dX5_isPlace_16 : decode cX5_isPlace 16 = .ok (.iconst 0, 1) := by decide +kernel
theorem dX5_isPlace_17 : decode cX5_isPlace 17 = .ok (.ireturn, 1) := by decide +kernel
theorem dX5_isPerson_0 : decode cX5_isPerson 0 = .ok (.iload_n 1, 1) := by decide +kernel
theorem dX5_isPerson_1 : decode cX5_isPerson 1 = .ok (.ifCond .lt 15, 3) := by decide +kernel
theorem dX5_isPerson_4 : decode cX5_isPerson 4 = .ok (.iload_n 1, 1) := by decide +kernel
theorem dX5_isPerson_5 : decode cX5_isPerson 5 = .ok (.aload_n 0, 1) := by decide +kernel
theorem dX5_isPerson_6 : decode cX5_isPerson 6 = .ok (.getfield 52, 3) := by decide +kernel
theorem dX5_isPerson_9 : decode cX5_isPerson 9 = .ok (.if_icmp .ge 7, 3) := by decide +kernel
theorem dX5_isPerson_12 : decode cX5_isPerson 12 = .ok (.iconst 1, 1) := by decide +kernel
theorem dX5_isPerson_13 : decode cX5_isPerson 13 = .ok (.goto 4, 3) := by decide +kernel
theorem dX5_isPerson_16 : decode cX5_isPerson 16 = .ok (.iconst 0, 1) := by decide +kernel
theorem dX5_isPerson_17 : decode cX5_isPerson 17 = .ok (.ireturn, 1) := by decide +kernel
theorem dX5_isThing_0 : decode cX5_isThing 0 = .ok (.iload_n 1, 1) := by decide +kernel
theorem dX5_isThing_1 : decode cX5_isThing 1 = .ok (.ifCond .lt 15, 3) := by decide +kernel
theorem dX5_isThing_4 : decode cX5_isThing 4 = .ok (.iload_n 1, 1) := by decide +kernel
theorem dX5_isThing_5 : decode cX5_isThing 5 = .ok (.aload_n 0, 1) := by decide +kernel
theorem dX5_isThing_6 : decode cX5_isThing 6 = .ok (.getfield 55, 3) := by decide +kernel
theorem dX5_isThing_9 : decode cX5_isThing 9 = .ok (.if_icmp .ge 7, 3) := by decide +kernel
theorem dX5_isThing_12 : decode cX5_isThing 12 = .ok (.iconst 1, 1) := by decide +kernel
theorem dX5_isThing_13 : decode cX5_isThing 13 = .ok (.goto 4, 3) := by decide +kernel
theorem dX5_isThing_16 : decode cX5_isThing 16 = .ok (.iconst 0, 1) := by decide +kernel
theorem dX5_isThing_17 : decode cX5_isThing 17 = .ok (.ireturn, 1) := by decide +kernel
theorem dX5_hear_0 : decode cX5_hear 0 = .ok (.iload_n 1, 1) := by decide +kernel
theorem dX5_hear_1 : decode cX5_hear 1 = .ok (.tableswitch 89 110 119 #[55, 89, 77, 89, 89, 89, 83, 89, 89, 63], 55) := by decide +kernel
theorem dX5_hear_56 : decode cX5_hear 56 = .ok (.aload_n 0, 1) := by decide +kernel
theorem dX5_hear_57 : decode cX5_hear 57 = .ok (.aload_n 2, 1) := by decide +kernel
theorem dX5_hear_58 : decode cX5_hear 58 = .ok (.iconst 0, 1) := by decide +kernel
theorem dX5_hear_59 : decode cX5_hear 59 = .ok (.iaload, 1) := by decide +kernel
theorem dX5_hear_60 : decode cX5_hear 60 = .ok (.invokevirtual 61, 3) := by decide +kernel
theorem dX5_hear_63 : decode cX5_hear 63 = .ok (.ireturn, 1) := by decide +kernel
theorem dX5_hear_64 : decode cX5_hear 64 = .ok (.aload_n 0, 1) := by decide +kernel
theorem dX5_hear_65 : decode cX5_hear 65 = .ok (.aload_n 2, 1) := by decide +kernel
theorem dX5_hear_66 : decode cX5_hear 66 = .ok (.iconst 0, 1) := by decide +kernel
theorem dX5_hear_67 : decode cX5_hear 67 = .ok (.iaload, 1) := by decide +kernel
theorem dX5_hear_68 : decode cX5_hear 68 = .ok (.aload_n 2, 1) := by decide +kernel
theorem dX5_hear_69 : decode cX5_hear 69 = .ok (.iconst 1, 1) := by decide +kernel
theorem dX5_hear_70 : decode cX5_hear 70 = .ok (.iaload, 1) := by decide +kernel
theorem dX5_hear_71 : decode cX5_hear 71 = .ok (.aload_n 2, 1) := by decide +kernel
theorem dX5_hear_72 : decode cX5_hear 72 = .ok (.iconst 2, 1) := by decide +kernel
theorem dX5_hear_73 : decode cX5_hear 73 = .ok (.iaload, 1) := by decide +kernel
theorem dX5_hear_74 : decode cX5_hear 74 = .ok (.invokevirtual 65, 3) := by decide +kernel
theorem dX5_hear_77 : decode cX5_hear 77 = .ok (.ireturn, 1) := by decide +kernel
theorem dX5_hear_78 : decode cX5_hear 78 = .ok (.aload_n 0, 1) := by decide +kernel
theorem dX5_hear_79 : decode cX5_hear 79 = .ok (.aload_n 2, 1) := by decide +kernel
theorem dX5_hear_80 : decode cX5_hear 80 = .ok (.invokevirtual 69, 3) := by decide +kernel
theorem dX5_hear_83 : decode cX5_hear 83 = .ok (.ireturn, 1) := by decide +kernel
theorem dX5_hear_84 : decode cX5_hear 84 = .ok (.aload_n 0, 1) := by decide +kernel
theorem dX5_hear_85 : decode cX5_hear 85 = .ok (.aload_n 2, 1) := by decide +kernel
theorem dX5_hear_86 : decode cX5_hear 86 = .ok (.invokevirtual 73, 3) := by decide +kernel
theorem dX5_hear_89 : decode cX5_hear 89 = .ok (.ireturn, 1) := by decide +kernel
theorem dX5_hear_90 : decode cX5_hear 90 = .ok (.iconst 0, 1) := by decide +kernel
theorem dX5_hear_91 : decode cX5_hear 91 = .ok (.ireturn, 1) := by decide +kernel
theorem dX5_hearPlaces_0 : decode cX5_hearPlaces 0 = .ok (.iload_n 1, 1) := by decide +kernel
theorem dX5_hearPlaces_1 : decode cX5_hearPlaces 1 = .ok (.iconst 2, 1) := by decide +kernel
theorem dX5_hearPlaces_2 : decode cX5_hearPlaces 2 = .ok (.if_icmp .lt 17, 3) := by decide +kernel
theorem dX5_hearPlaces_5 : decode cX5_hearPlaces 5 = .ok (.iload_n 1, 1) := by decide +kernel
theorem dX5_hearPlaces_6 : decode cX5_hearPlaces 6 = .ok (.bipush 7, 2) := by decide +kernel
theorem dX5_hearPlaces_8 : decode cX5_hearPlaces 8 = .ok (.if_icmp .gt 11, 3) := by decide +kernel
theorem dX5_hearPlaces_11 : decode cX5_hearPlaces 11 = .ok (.iload_n 1, 1) := by decide +kernel
theorem dX5_hearPlaces_12 : decode cX5_hearPlaces 12 = .ok (.aload_n 0, 1) := by decide +kernel
theorem dX5_hearPlaces_13 : decode cX5_hearPlaces 13 = .ok (.invokevirtual 76, 3) := by decide +kernel
theorem dX5_hearPlaces_16 : decode cX5_hearPlaces 16 = .ok (.if_icmp .gt 5, 3) := by decide +kernel
theorem dX5_hearPlaces_19 : decode cX5_hearPlaces 19 = .ok (.iconst 0, 1) := by decide +kernel
theorem dX5_hearPlaces_20 : decode cX5_hearPlaces 20 = .ok (.ireturn, 1) := by decide +kernel
theorem dX5_hearPlaces_21 : decode cX5_hearPlaces 21 = .ok (.aload_n 0, 1) := by decide +kernel
theorem dX5_hearPlaces_22 : decode cX5_hearPlaces 22 = .ok (.iload_n 1, 1) := by decide +kernel
theorem dX5_hearPlaces_23 : decode cX5_hearPlaces 23 = .ok (.putfield 30, 3) := by decide +kernel
theorem dX5_hearPlaces_26 : decode cX5_hearPlaces 26 = .ok (.iconst 1, 1) := by decide +kernel
theorem dX5_hearPlaces_27 : decode cX5_hearPlaces 27 = .ok (.ireturn, 1) := by decide +kernel
theorem dX5_highestPlace_0 : decode cX5_highestPlace 0 = .ok (.iconst (-1), 1) := by decide +kernel
theorem dX5_highestPlace_1 : decode cX5_highestPlace 1 = .ok (.istore_n 1, 1) := by decide +kernel
theorem dX5_highestPlace_2 : decode cX5_highestPlace 2 = .ok (.iconst 0, 1) := by decide +kernel
theorem dX5_highestPlace_3 : decode cX5_highestPlace 3 = .ok (.istore_n 2, 1) := by decide +kernel
theorem dX5_highestPlace_4 : decode cX5_highestPlace 4 = .ok (.iload_n 2, 1) := by decide +kernel
theorem dX5_highestPlace_5 : decode cX5_highestPlace 5 = .ok (.aload_n 0, 1) := by decide +kernel
theorem dX5_highestPlace_6 : decode cX5_highestPlace 6 = .ok (.getfield 23, 3) := by decide +kernel
theorem dX5_highestPlace_9 : decode cX5_highestPlace 9 = .ok (.arraylength, 1) := by decide +kernel
theorem dX5_highestPlace_10 : decode cX5_highestPlace 10 = .ok (.if_icmp .ge 27, 3) := by decide +kernel
theorem dX5_highestPlace_13 : decode cX5_highestPlace 13 = .ok (.aload_n 0, 1) := by decide +kernel
theorem dX5_highestPlace_14 : decode cX5_highestPlace 14 = .ok (.getfield 23, 3) := by decide +kernel
theorem dX5_highestPlace_17 : decode cX5_highestPlace 17 = .ok (.iload_n 2, 1) := by decide +kernel
theorem dX5_highestPlace_18 : decode cX5_highestPlace 18 = .ok (.iaload, 1) := by decide +kernel
theorem dX5_highestPlace_19 : decode cX5_highestPlace 19 = .ok (.ifCond .le 12, 3) := by decide +kernel
theorem dX5_highestPlace_22 : decode cX5_highestPlace 22 = .ok (.iload_n 1, 1) := by decide +kernel
theorem dX5_highestPlace_23 : decode cX5_highestPlace 23 = .ok (.iload_n 2, 1) := by decide +kernel
theorem dX5_highestPlace_24 : decode cX5_highestPlace 24 = .ok (.bipush 7, 2) := by decide +kernel
theorem dX5_highestPlace_26 : decode cX5_highestPlace 26 = .ok (.idiv, 1) := by decide +kernel
theorem dX5_highestPlace_27 : decode cX5_highestPlace 27 = .ok (.invokestatic 80, 3) := by decide +kernel
theorem dX5_highestPlace_30 : decode cX5_highestPlace 30 = .ok (.istore_n 1, 1) := by decide +kernel
theorem dX5_highestPlace_31 : decode cX5_highestPlace 31 = .ok (.iinc 2 1, 3) := by decide +kernel
theorem dX5_highestPlace_34 : decode cX5_highestPlace 34 = .ok (.goto (-30), 3) := by decide +kernel
theorem dX5_highestPlace_37 : decode cX5_highestPlace 37 = .ok (.iconst 0, 1) := by decide +kernel
theorem dX5_highestPlace_38 : decode cX5_highestPlace 38 = .ok (.istore_n 2, 1) := by decide +kernel
theorem dX5_highestPlace_39 : decode cX5_highestPlace 39 = .ok (.iload_n 2, 1) := by decide +kernel
theorem dX5_highestPlace_40 : decode cX5_highestPlace 40 = .ok (.aload_n 0, 1) := by decide +kernel
theorem dX5_highestPlace_41 : decode cX5_highestPlace 41 = .ok (.getfield 52, 3) := by decide +kernel
theorem dX5_highestPlace_44 : decode cX5_highestPlace 44 = .ok (.if_icmp .ge 39, 3) := by decide +kernel
theorem dX5_highestPlace_47 : decode cX5_highestPlace 47 = .ok (.aload_n 0, 1) := by decide +kernel
theorem dX5_highestPlace_48 : decode cX5_highestPlace 48 = .ok (.getfield 11, 3) := by decide +kernel
theorem dX5_highestPlace_51 : decode cX5_highestPlace 51 = .ok (.iload_n 2, 1) := by decide +kernel
theorem dX5_highestPlace_52 : decode cX5_highestPlace 52 = .ok (.aaload, 1) := by decide +kernel
theorem dX5_highestPlace_53 : decode cX5_highestPlace 53 = .ok (.astore_n 3, 1) := by decide +kernel
theorem dX5_highestPlace_54 : decode cX5_highestPlace 54 = .ok (.iload_n 1, 1) := by decide +kernel
theorem dX5_highestPlace_55 : decode cX5_highestPlace 55 = .ok (.aload_n 3, 1) := by decide +kernel
theorem dX5_highestPlace_56 : decode cX5_highestPlace 56 = .ok (.getfield 86, 3) := by decide +kernel
theorem dX5_highestPlace_59 : decode cX5_highestPlace 59 = .ok (.aload_n 3, 1) := by decide +kernel
theorem dX5_highestPlace_60 : decode cX5_highestPlace 60 = .ok (.getfield 89, 3) := by decide +kernel
theorem dX5_highestPlace_63 : decode cX5_highestPlace 63 = .ok (.aload_n 3, 1) := by decide +kernel
theorem dX5_highestPlace_64 : decode cX5_highestPlace 64 = .ok (.getfield 92, 3) := by decide +kernel
theorem dX5_highestPlace_67 : decode cX5_highestPlace 67 = .ok (.invokestatic 80, 3) := by decide +kernel
theorem dX5_highestPlace_70 : decode cX5_highestPlace 70 = .ok (.invokestatic 80, 3) := by decide +kernel
theorem dX5_highestPlace_73 : decode cX5_highestPlace 73 = .ok (.invokestatic 80, 3) := by decide +kernel
theorem dX5_highestPlace_76 : decode cX5_highestPlace 76 = .ok (.istore_n 1, 1) := by decide +kernel
theorem dX5_highestPlace_77 : decode cX5_highestPlace 77 = .ok (.iinc 2 1, 3) := by decide +kernel
theorem dX5_highestPlace_80 : decode cX5_highestPlace 80 = .ok (.goto (-41), 3) := by decide +kernel
theorem dX5_highestPlace_83 : decode cX5_highestPlace 83 = .ok (.iconst 0, 1) := by decide +kernel
theorem dX5_highestPlace_84 : decode cX5_highestPlace 84 = .ok (.istore_n 2, 1) := by decide +kernel
theorem dX5_highestPlace_85 : decode cX5_highestPlace 85 = .ok (.iload_n 2, 1) := by decide +kernel
theorem dX5_highestPlace_86 : decode cX5_highestPlace 86 = .ok (.aload_n 0, 1) := by decide +kernel
theorem dX5_highestPlace_87 : decode cX5_highestPlace 87 = .ok (.getfield 55, 3) := by decide +kernel
theorem dX5_highestPlace_90 : decode cX5_highestPlace 90 = .ok (.if_icmp .ge 50, 3) := by decide +kernel
theorem dX5_highestPlace_93 : decode cX5_highestPlace 93 = .ok (.aload_n 0, 1) := by decide +kernel
theorem dX5_highestPlace_94 : decode cX5_highestPlace 94 = .ok (.getfield 19, 3) := by decide +kernel
theorem dX5_highestPlace_97 : decode cX5_highestPlace 97 = .ok (.iload_n 2, 1) := by decide +kernel
theorem dX5_highestPlace_98 : decode cX5_highestPlace 98 = .ok (.aaload, 1) := by decide +kernel
theorem dX5_highestPlace_99 : decode cX5_highestPlace 99 = .ok (.astore_n 3, 1) := by decide +kernel
theorem dX5_highestPlace_100 : decode cX5_highestPlace 100 = .ok (.iload_n 1, 1) := by decide +kernel
theorem dX5_highestPlace_101 : decode cX5_highestPlace 101 = .ok (.aload_n 3, 1) := by decide +kernel
theorem dX5_highestPlace_102 : decode cX5_highestPlace 102 = .ok (.getfield 95, 3) := by decide +kernel
theorem dX5_highestPlace_105 : decode cX5_highestPlace 105 = .ok (.aload_n 3, 1) := by decide +kernel
theorem dX5_highestPlace_106 : decode cX5_highestPlace 106 = .ok (.getfield 96, 3) := by decide +kernel
theorem dX5_highestPlace_109 : decode cX5_highestPlace 109 = .ok (.invokestatic 80, 3) := by decide +kernel
theorem dX5_highestPlace_112 : decode cX5_highestPlace 112 = .ok (.invokestatic 80, 3) := by decide +kernel
theorem dX5_highestPlace_115 : decode cX5_highestPlace 115 = .ok (.istore_n 1, 1) := by decide +kernel
theorem dX5_highestPlace_116 : decode cX5_highestPlace 116 = .ok (.aload_n 3, 1) := by decide +kernel
theorem dX5_highestPlace_117 : decode cX5_highestPlace 117 = .ok (.getfield 97, 3) := by decide +kernel
theorem dX5_highestPlace_120 : decode cX5_highestPlace 120 = .ok (.bipush 10, 2) := by decide +kernel
theorem dX5_highestPlace_122 : decode cX5_highestPlace 122 = .ok (.if_icmp .ge 12, 3) := by decide +kernel
theorem dX5_highestPlace_125 : decode cX5_highestPlace 125 = .ok (.iload_n 1, 1) := by decide +kernel
theorem dX5_highestPlace_126 : decode cX5_highestPlace 126 = .ok (.aload_n 3, 1) := by decide +kernel
theorem dX5_highestPlace_127 : decode cX5_highestPlace 127 = .ok (.getfield 97, 3) := by decide +kernel
theorem dX5_highestPlace_130 : decode cX5_highestPlace 130 = .ok (.invokestatic 80, 3) := by decide +kernel
theorem dX5_highestPlace_133 : decode cX5_highestPlace 133 = .ok (.istore_n 1, 1) := by decide +kernel
theorem dX5_highestPlace_134 : decode cX5_highestPlace 134 = .ok (.iinc 2 1, 3) := by decide +kernel
theorem dX5_highestPlace_137 : decode cX5_highestPlace 137 = .ok (.goto (-52), 3) := by decide +kernel
theorem dX5_highestPlace_140 : decode cX5_highestPlace 140 = .ok (.iload_n 1, 1) := by decide +kernel
theorem dX5_highestPlace_141 : decode cX5_highestPlace 141 = .ok (.ireturn, 1) := by decide +kernel
theorem dX5_hearWay_0 : decode cX5_hearWay 0 = .ok (.aload_n 0, 1) := by decide +kernel
theorem dX5_hearWay_1 : decode cX5_hearWay 1 = .ok (.iload_n 1, 1) := by decide +kernel
theorem dX5_hearWay_2 : decode cX5_hearWay 2 = .ok (.invokevirtual 100, 3) := by decide +kernel
theorem dX5_hearWay_5 : decode cX5_hearWay 5 = .ok (.ifCond .eq 27, 3) := by decide +kernel
theorem dX5_hearWay_8 : decode cX5_hearWay 8 = .ok (.aload_n 0, 1) := by decide +kernel
theorem dX5_hearWay_9 : decode cX5_hearWay 9 = .ok (.iload_n 2, 1) := by decide +kernel
theorem dX5_hearWay_10 : decode cX5_hearWay 10 = .ok (.invokevirtual 100, 3) := by decide +kernel
theorem dX5_hearWay_13 : decode cX5_hearWay 13 = .ok (.ifCond .eq 19, 3) := by decide +kernel
theorem dX5_hearWay_16 : decode cX5_hearWay 16 = .ok (.iload_n 1, 1) := by decide +kernel
theorem dX5_hearWay_17 : decode cX5_hearWay 17 = .ok (.iload_n 2, 1) := by decide +kernel
theorem dX5_hearWay_18 : decode cX5_hearWay 18 = .ok (.if_icmp .eq 14, 3) := by decide +kernel
theorem dX5_hearWay_21 : decode cX5_hearWay 21 = .ok (.iload_n 3, 1) := by decide +kernel
theorem dX5_hearWay_22 : decode cX5_hearWay 22 = .ok (.iconst 1, 1) := by decide +kernel
theorem dX5_hearWay_23 : decode cX5_hearWay 23 = .ok (.if_icmp .lt 9, 3) := by decide +kernel
theorem dX5_hearWay_26 : decode cX5_hearWay 26 = .ok (.iload_n 3, 1) := by decide +kernel
theorem dX5_hearWay_27 : decode cX5_hearWay 27 = .ok (.bipush 60, 2) := by decide +kernel
theorem dX5_hearWay_29 : decode cX5_hearWay 29 = .ok (.if_icmp .le 5, 3) := by decide +kernel
theorem dX5_hearWay_32 : decode cX5_hearWay 32 = .ok (.iconst 0, 1) := by decide +kernel
theorem dX5_hearWay_33 : decode cX5_hearWay 33 = .ok (.ireturn, 1) := by decide +kernel
theorem dX5_hearWay_34 : decode cX5_hearWay 34 = .ok (.aload_n 0, 1) := by decide +kernel
theorem dX5_hearWay_35 : decode cX5_hearWay 35 = .ok (.getfield 23, 3) := by decide +kernel
theorem dX5_hearWay_38 : decode cX5_hearWay 38 = .ok (.iload_n 1, 1) := by decide +kernel
theorem dX5_hearWay_39 : decode cX5_hearWay 39 = .ok (.bipush 7, 2) := by decide +kernel
theorem dX5_hearWay_41 : decode cX5_hearWay 41 = .ok (.imul, 1) := by decide +kernel
theorem dX5_hearWay_42 : decode cX5_hearWay 42 = .ok (.iload_n 2, 1) := by decide +kernel
theorem dX5_hearWay_43 : decode cX5_hearWay 43 = .ok (.iadd, 1) := by decide +kernel
theorem dX5_hearWay_44 : decode cX5_hearWay 44 = .ok (.iload_n 3, 1) := by decide +kernel
theorem dX5_hearWay_45 : decode cX5_hearWay 45 = .ok (.iastore, 1) := by decide +kernel
theorem dX5_hearWay_46 : decode cX5_hearWay 46 = .ok (.aload_n 0, 1) := by decide +kernel
theorem dX5_hearWay_47 : decode cX5_hearWay 47 = .ok (.getfield 23, 3) := by decide +kernel
theorem dX5_hearWay_50 : decode cX5_hearWay 50 = .ok (.iload_n 2, 1) := by decide +kernel
theorem dX5_hearWay_51 : decode cX5_hearWay 51 = .ok (.bipush 7, 2) := by decide +kernel
theorem dX5_hearWay_53 : decode cX5_hearWay 53 = .ok (.imul, 1) := by decide +kernel
theorem dX5_hearWay_54 : decode cX5_hearWay 54 = .ok (.iload_n 1, 1) := by decide +kernel
theorem dX5_hearWay_55 : decode cX5_hearWay 55 = .ok (.iadd, 1) := by decide +kernel
theorem dX5_hearWay_56 : decode cX5_hearWay 56 = .ok (.iload_n 3, 1) := by decide +kernel
theorem dX5_hearWay_57 : decode cX5_hearWay 57 = .ok (.iastore, 1) := by decide +kernel
theorem dX5_hearWay_58 : decode cX5_hearWay 58 = .ok (.iconst 1, 1) := by decide +kernel
theorem dX5_hearWay_59 : decode cX5_hearWay 59 = .ok (.ireturn, 1) := by decide +kernel
theorem dX5_hearPerson_0 : decode cX5_hearPerson 0 = .ok (.aload_n 0, 1) := by decide +kernel
theorem dX5_hearPerson_1 : decode cX5_hearPerson 1 = .ok (.getfield 52, 3) := by decide +kernel
theorem dX5_hearPerson_4 : decode cX5_hearPerson 4 = .ok (.bipush 6, 2) := by decide +kernel
theorem dX5_hearPerson_6 : decode cX5_hearPerson 6 = .ok (.if_icmp .ge 32, 3) := by decide +kernel
theorem dX5_hearPerson_9 : decode cX5_hearPerson 9 = .ok (.aload_n 0, 1) := by decide +kernel
theorem dX5_hearPerson_10 : decode cX5_hearPerson 10 = .ok (.aload_n 1, 1) := by decide +kernel
theorem dX5_hearPerson_11 : decode cX5_hearPerson 11 = .ok (.iconst 0, 1) := by decide +kernel
theorem dX5_hearPerson_12 : decode cX5_hearPerson 12 = .ok (.iaload, 1) := by decide +kernel
theorem dX5_hearPerson_13 : decode cX5_hearPerson 13 = .ok (.invokevirtual 100, 3) := by decide +kernel
theorem dX5_hearPerson_16 : decode cX5_hearPerson 16 = .ok (.ifCond .eq 22, 3) := by decide +kernel
theorem dX5_hearPerson_19 : decode cX5_hearPerson 19 = .ok (.aload_n 0, 1) := by decide +kernel
theorem dX5_hearPerson_20 : decode cX5_hearPerson 20 = .ok (.aload_n 1, 1) := by decide +kernel
theorem dX5_hearPerson_21 : decode cX5_hearPerson 21 = .ok (.iconst 1, 1) := by decide +kernel
theorem dX5_hearPerson_22 : decode cX5_hearPerson 22 = .ok (.iaload, 1) := by decide +kernel
theorem dX5_hearPerson_23 : decode cX5_hearPerson 23 = .ok (.invokevirtual 100, 3) := by decide +kernel
theorem dX5_hearPerson_26 : decode cX5_hearPerson 26 = .ok (.ifCond .eq 12, 3) := by decide +kernel
theorem dX5_hearPerson_29 : decode cX5_hearPerson 29 = .ok (.aload_n 1, 1) := by decide +kernel
theorem dX5_hearPerson_30 : decode cX5_hearPerson 30 = .ok (.iconst 2, 1) := by decide +kernel
theorem dX5_hearPerson_31 : decode cX5_hearPerson 31 = .ok (.iaload, 1) := by decide +kernel
theorem dX5_hearPerson_32 : decode cX5_hearPerson 32 = .ok (.sipush 720, 3) := by decide +kernel
theorem dX5_hearPerson_35 : decode cX5_hearPerson 35 = .ok (.if_icmp .le 5, 3) := by decide +kernel
theorem dX5_hearPerson_38 : decode cX5_hearPerson 38 = .ok (.iconst 0, 1) := by decide +kernel
theorem dX5_hearPerson_39 : decode cX5_hearPerson 39 = .ok (.ireturn, 1) := by decide +kernel
theorem dX5_hearPerson_40 : decode cX5_hearPerson 40 = .ok (.aload_n 0, 1) := by decide +kernel
theorem dX5_hearPerson_41 : decode cX5_hearPerson 41 = .ok (.getfield 11, 3) := by decide +kernel
theorem dX5_hearPerson_44 : decode cX5_hearPerson 44 = .ok (.aload_n 0, 1) := by decide +kernel
theorem dX5_hearPerson_45 : decode cX5_hearPerson 45 = .ok (.getfield 52, 3) := by decide +kernel
theorem dX5_hearPerson_48 : decode cX5_hearPerson 48 = .ok (.aaload, 1) := by decide +kernel
theorem dX5_hearPerson_49 : decode cX5_hearPerson 49 = .ok (.astore_n 2, 1) := by decide +kernel
theorem dX5_hearPerson_50 : decode cX5_hearPerson 50 = .ok (.aload_n 2, 1) := by decide +kernel
theorem dX5_hearPerson_51 : decode cX5_hearPerson 51 = .ok (.aload_n 1, 1) := by decide +kernel
theorem dX5_hearPerson_52 : decode cX5_hearPerson 52 = .ok (.iconst 0, 1) := by decide +kernel
theorem dX5_hearPerson_53 : decode cX5_hearPerson 53 = .ok (.iaload, 1) := by decide +kernel
theorem dX5_hearPerson_54 : decode cX5_hearPerson 54 = .ok (.putfield 89, 3) := by decide +kernel
theorem dX5_hearPerson_57 : decode cX5_hearPerson 57 = .ok (.aload_n 2, 1) := by decide +kernel
theorem dX5_hearPerson_58 : decode cX5_hearPerson 58 = .ok (.aload_n 1, 1) := by decide +kernel
theorem dX5_hearPerson_59 : decode cX5_hearPerson 59 = .ok (.iconst 1, 1) := by decide +kernel
theorem dX5_hearPerson_60 : decode cX5_hearPerson 60 = .ok (.iaload, 1) := by decide +kernel
theorem dX5_hearPerson_61 : decode cX5_hearPerson 61 = .ok (.putfield 92, 3) := by decide +kernel
theorem dX5_hearPerson_64 : decode cX5_hearPerson 64 = .ok (.aload_n 2, 1) := by decide +kernel
theorem dX5_hearPerson_65 : decode cX5_hearPerson 65 = .ok (.aload_n 1, 1) := by decide +kernel
theorem dX5_hearPerson_66 : decode cX5_hearPerson 66 = .ok (.iconst 2, 1) := by decide +kernel
theorem dX5_hearPerson_67 : decode cX5_hearPerson 67 = .ok (.iaload, 1) := by decide +kernel
theorem dX5_hearPerson_68 : decode cX5_hearPerson 68 = .ok (.putfield 103, 3) := by decide +kernel
theorem dX5_hearPerson_71 : decode cX5_hearPerson 71 = .ok (.aload_n 2, 1) := by decide +kernel
theorem dX5_hearPerson_72 : decode cX5_hearPerson 72 = .ok (.aload_n 1, 1) := by decide +kernel
theorem dX5_hearPerson_73 : decode cX5_hearPerson 73 = .ok (.iconst 3, 1) := by decide +kernel
theorem dX5_hearPerson_74 : decode cX5_hearPerson 74 = .ok (.iaload, 1) := by decide +kernel
theorem dX5_hearPerson_75 : decode cX5_hearPerson 75 = .ok (.putfield 106, 3) := by decide +kernel
theorem dX5_hearPerson_78 : decode cX5_hearPerson 78 = .ok (.aload_n 2, 1) := by decide +kernel
theorem dX5_hearPerson_79 : decode cX5_hearPerson 79 = .ok (.aload_n 1, 1) := by decide +kernel
theorem dX5_hearPerson_80 : decode cX5_hearPerson 80 = .ok (.iconst 4, 1) := by decide +kernel
theorem dX5_hearPerson_81 : decode cX5_hearPerson 81 = .ok (.iaload, 1) := by decide +kernel
theorem dX5_hearPerson_82 : decode cX5_hearPerson 82 = .ok (.putfield 109, 3) := by decide +kernel
theorem dX5_hearPerson_85 : decode cX5_hearPerson 85 = .ok (.aload_n 2, 1) := by decide +kernel
theorem dX5_hearPerson_86 : decode cX5_hearPerson 86 = .ok (.aload_n 2, 1) := by decide +kernel
theorem dX5_hearPerson_87 : decode cX5_hearPerson 87 = .ok (.getfield 89, 3) := by decide +kernel
theorem dX5_hearPerson_90 : decode cX5_hearPerson 90 = .ok (.putfield 86, 3) := by decide +kernel
theorem dX5_hearPerson_93 : decode cX5_hearPerson 93 = .ok (.aload_n 2, 1) := by decide +kernel
theorem dX5_hearPerson_94 : decode cX5_hearPerson 94 = .ok (.aload_n 2, 1) := by decide +kernel
theorem dX5_hearPerson_95 : decode cX5_hearPerson 95 = .ok (.getfield 103, 3) := by decide +kernel
theorem dX5_hearPerson_98 : decode cX5_hearPerson 98 = .ok (.putfield 112, 3) := by decide +kernel
theorem dX5_hearPerson_101 : decode cX5_hearPerson 101 = .ok (.aload_n 0, 1) := by decide +kernel
theorem dX5_hearPerson_102 : decode cX5_hearPerson 102 = .ok (.dup, 1) := by decide +kernel
theorem dX5_hearPerson_103 : decode cX5_hearPerson 103 = .ok (.getfield 52, 3) := by decide +kernel
theorem dX5_hearPerson_106 : decode cX5_hearPerson 106 = .ok (.iconst 1, 1) := by decide +kernel
theorem dX5_hearPerson_107 : decode cX5_hearPerson 107 = .ok (.iadd, 1) := by decide +kernel
theorem dX5_hearPerson_108 : decode cX5_hearPerson 108 = .ok (.putfield 52, 3) := by decide +kernel
theorem dX5_hearPerson_111 : decode cX5_hearPerson 111 = .ok (.iconst 1, 1) := by decide +kernel
theorem dX5_hearPerson_112 : decode cX5_hearPerson 112 = .ok (.ireturn, 1) := by decide +kernel
theorem dX5_hearThing_0 : decode cX5_hearThing 0 = .ok (.aload_n 0, 1) := by decide +kernel
theorem dX5_hearThing_1 : decode cX5_hearThing 1 = .ok (.getfield 55, 3) := by decide +kernel
theorem dX5_hearThing_4 : decode cX5_hearThing 4 = .ok (.bipush 6, 2) := by decide +kernel
theorem dX5_hearThing_6 : decode cX5_hearThing 6 = .ok (.if_icmp .ge 50, 3) := by decide +kernel
theorem dX5_hearThing_9 : decode cX5_hearThing 9 = .ok (.aload_n 0, 1) := by decide +kernel
theorem dX5_hearThing_10 : decode cX5_hearThing 10 = .ok (.aload_n 1, 1) := by decide +kernel
theorem dX5_hearThing_11 : decode cX5_hearThing 11 = .ok (.iconst 0, 1) := by decide +kernel
theorem dX5_hearThing_12 : decode cX5_hearThing 12 = .ok (.iaload, 1) := by decide +kernel
theorem dX5_hearThing_13 : decode cX5_hearThing 13 = .ok (.invokevirtual 115, 3) := by decide +kernel
theorem dX5_hearThing_16 : decode cX5_hearThing 16 = .ok (.ifCond .eq 40, 3) := by decide +kernel
theorem dX5_hearThing_19 : decode cX5_hearThing 19 = .ok (.aload_n 0, 1) := by decide +kernel
theorem dX5_hearThing_20 : decode cX5_hearThing 20 = .ok (.aload_n 1, 1) := by decide +kernel
theorem dX5_hearThing_21 : decode cX5_hearThing 21 = .ok (.iconst 1, 1) := by decide +kernel
theorem dX5_hearThing_22 : decode cX5_hearThing 22 = .ok (.iaload, 1) := by decide +kernel
theorem dX5_hearThing_23 : decode cX5_hearThing 23 = .ok (.invokevirtual 115, 3) := by decide +kernel
theorem dX5_hearThing_26 : decode cX5_hearThing 26 = .ok (.ifCond .eq 30, 3) := by decide +kernel
theorem dX5_hearThing_29 : decode cX5_hearThing 29 = .ok (.aload_n 0, 1) := by decide +kernel
theorem dX5_hearThing_30 : decode cX5_hearThing 30 = .ok (.aload_n 1, 1) := by decide +kernel
theorem dX5_hearThing_31 : decode cX5_hearThing 31 = .ok (.iconst 2, 1) := by decide +kernel
theorem dX5_hearThing_32 : decode cX5_hearThing 32 = .ok (.iaload, 1) := by decide +kernel
theorem dX5_hearThing_33 : decode cX5_hearThing 33 = .ok (.invokevirtual 100, 3) := by decide +kernel
theorem dX5_hearThing_36 : decode cX5_hearThing 36 = .ok (.ifCond .eq 20, 3) := by decide +kernel
theorem dX5_hearThing_39 : decode cX5_hearThing 39 = .ok (.aload_n 0, 1) := by decide +kernel
theorem dX5_hearThing_40 : decode cX5_hearThing 40 = .ok (.aload_n 1, 1) := by decide +kernel
theorem dX5_hearThing_41 : decode cX5_hearThing 41 = .ok (.iconst 3, 1) := by decide +kernel
theorem dX5_hearThing_42 : decode cX5_hearThing 42 = .ok (.iaload, 1) := by decide +kernel
theorem dX5_hearThing_43 : decode cX5_hearThing 43 = .ok (.invokevirtual 100, 3) := by decide +kernel
theorem dX5_hearThing_46 : decode cX5_hearThing 46 = .ok (.ifCond .eq 10, 3) := by decide +kernel
theorem dX5_hearThing_49 : decode cX5_hearThing 49 = .ok (.aload_n 1, 1) := by decide +kernel
theorem dX5_hearThing_50 : decode cX5_hearThing 50 = .ok (.iconst 4, 1) := by decide +kernel
theorem dX5_hearThing_51 : decode cX5_hearThing 51 = .ok (.iaload, 1) := by decide +kernel
theorem dX5_hearThing_52 : decode cX5_hearThing 52 = .ok (.iconst 1, 1) := by decide +kernel
theorem dX5_hearThing_53 : decode cX5_hearThing 53 = .ok (.if_icmp .ge 5, 3) := by decide +kernel
theorem dX5_hearThing_56 : decode cX5_hearThing 56 = .ok (.iconst 0, 1) := by decide +kernel
theorem dX5_hearThing_57 : decode cX5_hearThing 57 = .ok (.ireturn, 1) := by decide +kernel
theorem dX5_hearThing_58 : decode cX5_hearThing 58 = .ok (.aload_n 0, 1) := by decide +kernel
theorem dX5_hearThing_59 : decode cX5_hearThing 59 = .ok (.getfield 19, 3) := by decide +kernel
theorem dX5_hearThing_62 : decode cX5_hearThing 62 = .ok (.aload_n 0, 1) := by decide +kernel
theorem dX5_hearThing_63 : decode cX5_hearThing 63 = .ok (.getfield 55, 3) := by decide +kernel
theorem dX5_hearThing_66 : decode cX5_hearThing 66 = .ok (.aaload, 1) := by decide +kernel
theorem dX5_hearThing_67 : decode cX5_hearThing 67 = .ok (.astore_n 2, 1) := by decide +kernel
theorem dX5_hearThing_68 : decode cX5_hearThing 68 = .ok (.aload_n 2, 1) := by decide +kernel
theorem dX5_hearThing_69 : decode cX5_hearThing 69 = .ok (.aload_n 1, 1) := by decide +kernel
theorem dX5_hearThing_70 : decode cX5_hearThing 70 = .ok (.iconst 0, 1) := by decide +kernel
theorem dX5_hearThing_71 : decode cX5_hearThing 71 = .ok (.iaload, 1) := by decide +kernel
theorem dX5_hearThing_72 : decode cX5_hearThing 72 = .ok (.putfield 118, 3) := by decide +kernel
theorem dX5_hearThing_75 : decode cX5_hearThing 75 = .ok (.aload_n 2, 1) := by decide +kernel
theorem dX5_hearThing_76 : decode cX5_hearThing 76 = .ok (.aload_n 1, 1) := by decide +kernel
theorem dX5_hearThing_77 : decode cX5_hearThing 77 = .ok (.iconst 1, 1) := by decide +kernel
theorem dX5_hearThing_78 : decode cX5_hearThing 78 = .ok (.iaload, 1) := by decide +kernel
theorem dX5_hearThing_79 : decode cX5_hearThing 79 = .ok (.putfield 121, 3) := by decide +kernel
theorem dX5_hearThing_82 : decode cX5_hearThing 82 = .ok (.aload_n 2, 1) := by decide +kernel
theorem dX5_hearThing_83 : decode cX5_hearThing 83 = .ok (.aload_n 1, 1) := by decide +kernel
theorem dX5_hearThing_84 : decode cX5_hearThing 84 = .ok (.iconst 2, 1) := by decide +kernel
theorem dX5_hearThing_85 : decode cX5_hearThing 85 = .ok (.iaload, 1) := by decide +kernel
theorem dX5_hearThing_86 : decode cX5_hearThing 86 = .ok (.putfield 95, 3) := by decide +kernel
theorem dX5_hearThing_89 : decode cX5_hearThing 89 = .ok (.aload_n 2, 1) := by decide +kernel
theorem dX5_hearThing_90 : decode cX5_hearThing 90 = .ok (.aload_n 1, 1) := by decide +kernel
theorem dX5_hearThing_91 : decode cX5_hearThing 91 = .ok (.iconst 3, 1) := by decide +kernel
theorem dX5_hearThing_92 : decode cX5_hearThing 92 = .ok (.iaload, 1) := by decide +kernel
theorem dX5_hearThing_93 : decode cX5_hearThing 93 = .ok (.putfield 96, 3) := by decide +kernel
theorem dX5_hearThing_96 : decode cX5_hearThing 96 = .ok (.aload_n 2, 1) := by decide +kernel
theorem dX5_hearThing_97 : decode cX5_hearThing 97 = .ok (.aload_n 1, 1) := by decide +kernel
theorem dX5_hearThing_98 : decode cX5_hearThing 98 = .ok (.iconst 4, 1) := by decide +kernel
theorem dX5_hearThing_99 : decode cX5_hearThing 99 = .ok (.iaload, 1) := by decide +kernel
theorem dX5_hearThing_100 : decode cX5_hearThing 100 = .ok (.putfield 124, 3) := by decide +kernel
theorem dX5_hearThing_103 : decode cX5_hearThing 103 = .ok (.aload_n 2, 1) := by decide +kernel
