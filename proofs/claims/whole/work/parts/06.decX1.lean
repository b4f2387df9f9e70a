theorem dX1_init_0 : decode cX1_init 0 = .ok (.aload_n 0, 1) := by decide +kernel
theorem dX1_init_1 : decode cX1_init 1 = .ok (.invokespecial 3, 3) := by decide +kernel
theorem dX1_init_4 : decode cX1_init 4 = .ok (.aload_n 0, 1) := by decide +kernel
theorem dX1_init_5 : decode cX1_init 5 = .ok (.getstatic 9, 3) := by decide +kernel
theorem dX1_init_8 : decode cX1_init 8 = .ok (.invokevirtual 13, 3) := by decide +kernel
theorem dX1_init_11 : decode cX1_init 11 = .ok (.checkcast 14, 3) := by decide +kernel
theorem dX1_init_14 : decode cX1_init 14 = .ok (.putfield 18, 3) := by decide +kernel
theorem dX1_init_17 : decode cX1_init 17 = .ok (.aload_n 0, 1) := by decide +kernel
theorem dX1_init_18 : decode cX1_init 18 = .ok (.new 23, 3) := by decide +kernel
theorem dX1_init_21 : decode cX1_init 21 = .ok (.dup, 1) := by decide +kernel
theorem dX1_init_22 : decode cX1_init 22 = .ok (.invokespecial 25, 3) := by decide +kernel
theorem dX1_init_25 : decode cX1_init 25 = .ok (.putfield 26, 3) := by decide +kernel
theorem dX1_init_28 : decode cX1_init 28 = .ok (.aload_n 0, 1) := by decide +kernel
theorem dX1_init_29 : decode cX1_init 29 = .ok (.new 30, 3) := by decide +kernel
theorem dX1_init_32 : decode cX1_init 32 = .ok (.dup, 1) := by decide +kernel
theorem dX1_init_33 : decode cX1_init 33 = .ok (.invokespecial 32, 3) := by decide +kernel
theorem dX1_init_36 : decode cX1_init 36 = .ok (.putfield 33, 3) := by decide +kernel
theorem dX1_init_39 : decode cX1_init 39 = .ok (.aload_n 0, 1) := by decide +kernel
theorem dX1_init_40 : decode cX1_init 40 = .ok (.iconst 0, 1) := by decide +kernel
theorem dX1_init_41 : decode cX1_init 41 = .ok (.putfield 37, 3) := by decide +kernel
theorem dX1_init_44 : decode cX1_init 44 = .ok (.return_, 1) := by decide +kernel
theorem dX1_setRule_0 : decode cX1_setRule 0 = .ok (.aload_n 0, 1) := by decide +kernel
theorem dX1_setRule_1 : decode cX1_setRule 1 = .ok (.getfield 18, 3) := by decide +kernel
theorem dX1_setRule_4 : decode cX1_setRule 4 = .ok (.iload_n 1, 1) := by decide +kernel
theorem dX1_setRule_5 : decode cX1_setRule 5 = .ok (.iaload, 1) := by decide +kernel
theorem dX1_setRule_6 : decode cX1_setRule 6 = .ok (.istore_n 3, 1) := by decide +kernel
theorem dX1_setRule_7 : decode cX1_setRule 7 = .ok (.aload_n 0, 1) := by decide +kernel
theorem dX1_setRule_8 : decode cX1_setRule 8 = .ok (.getfield 18, 3) := by decide +kernel
theorem dX1_setRule_11 : decode cX1_setRule 11 = .ok (.iload_n 1, 1) := by decide +kernel
theorem dX1_setRule_12 : decode cX1_setRule 12 = .ok (.iload_n 2, 1) := by decide +kernel
theorem dX1_setRule_13 : decode cX1_setRule 13 = .ok (.iastore, 1) := by decide +kernel
theorem dX1_setRule_14 : decode cX1_setRule 14 = .ok (.iload_n 1, 1) := by decide +kernel
theorem dX1_setRule_15 : decode cX1_setRule 15 = .ok (.ifCond .ne 12, 3) := by decide +kernel
theorem dX1_setRule_18 : decode cX1_setRule 18 = .ok (.iload_n 2, 1) := by decide +kernel
theorem dX1_setRule_19 : decode cX1_setRule 19 = .ok (.iload_n 3, 1) := by decide +kernel
theorem dX1_setRule_20 : decode cX1_setRule 20 = .ok (.if_icmp .eq 7, 3) := by decide +kernel
theorem dX1_setRule_23 : decode cX1_setRule 23 = .ok (.aload_n 0, 1) := by decide +kernel
theorem dX1_setRule_24 : decode cX1_setRule 24 = .ok (.invokevirtual 41, 3) := by decide +kernel
theorem dX1_setRule_27 : decode cX1_setRule 27 = .ok (.aload_n 0, 1) := by decide +kernel
theorem dX1_setRule_28 : decode cX1_setRule 28 = .ok (.invokevirtual 44, 3) := by decide +kernel
theorem dX1_setRule_31 : decode cX1_setRule 31 = .ok (.pop, 1) := by decide +kernel
theorem dX1_setRule_32 : decode cX1_setRule 32 = .ok (.iload_n 3, 1) := by decide +kernel
theorem dX1_setRule_33 : decode cX1_setRule 33 = .ok (.ireturn, 1) := by decide +kernel
theorem dX1_goOut_0 : decode cX1_goOut 0 = .ok (.aload_n 0, 1) := by decide +kernel
theorem dX1_goOut_1 : decode cX1_goOut 1 = .ok (.getfield 26, 3) := by decide +kernel
theorem dX1_goOut_4 : decode cX1_goOut 4 = .ok (.iload_n 1, 1) := by decide +kernel
theorem dX1_goOut_5 : decode cX1_goOut 5 = .ok (.bipush 32, 2) := by decide +kernel
theorem dX1_goOut_7 : decode cX1_goOut 7 = .ok (.imul, 1) := by decide +kernel
theorem dX1_goOut_8 : decode cX1_goOut 8 = .ok (.iload_n 2, 1) := by decide +kernel
theorem dX1_goOut_9 : decode cX1_goOut 9 = .ok (.iadd, 1) := by decide +kernel
theorem dX1_goOut_10 : decode cX1_goOut 10 = .ok (.iload_n 3, 1) := by decide +kernel
theorem dX1_goOut_11 : decode cX1_goOut 11 = .ok (.iload 4, 2) := by decide +kernel
theorem dX1_goOut_13 : decode cX1_goOut 13 = .ok (.invokevirtual 48, 3) := by decide +kernel
theorem dX1_goOut_16 : decode cX1_goOut 16 = .ok (.istore 6, 2) := by decide +kernel
theorem dX1_goOut_18 : decode cX1_goOut 18 = .ok (.iload 6, 2) := by decide +kernel
theorem dX1_goOut_20 : decode cX1_goOut 20 = .ok (.bipush (-6), 2) := by decide +kernel
theorem dX1_goOut_22 : decode cX1_goOut 22 = .ok (.if_icmp .ne 14, 3) := by decide +kernel
theorem dX1_goOut_25 : decode cX1_goOut 25 = .ok (.aload_n 0, 1) := by decide +kernel
theorem dX1_goOut_26 : decode cX1_goOut 26 = .ok (.iload_n 1, 1) := by decide +kernel
theorem dX1_goOut_27 : decode cX1_goOut 27 = .ok (.iload_n 2, 1) := by decide +kernel
theorem dX1_goOut_28 : decode cX1_goOut 28 = .ok (.iload_n 3, 1) := by decide +kernel
theorem dX1_goOut_29 : decode cX1_goOut 29 = .ok (.iload 4, 2) := by decide +kernel
theorem dX1_goOut_31 : decode cX1_goOut 31 = .ok (.invokevirtual 52, 3) := by decide +kernel
theorem dX1_goOut_34 : decode cX1_goOut 34 = .ok (.istore 6, 2) := by decide +kernel
theorem dX1_goOut_36 : decode cX1_goOut 36 = .ok (.iload 6, 2) := by decide +kernel
theorem dX1_goOut_38 : decode cX1_goOut 38 = .ok (.bipush (-6), 2) := by decide +kernel
theorem dX1_goOut_40 : decode cX1_goOut 40 = .ok (.if_icmp .ne 6, 3) := by decide +kernel
theorem dX1_goOut_43 : decode cX1_goOut 43 = .ok (.bipush (-5), 2) := by decide +kernel
theorem dX1_goOut_45 : decode cX1_goOut 45 = .ok (.ireturn, 1) := by decide +kernel
theorem dX1_goOut_46 : decode cX1_goOut 46 = .ok (.aload_n 0, 1) := by decide +kernel
theorem dX1_goOut_47 : decode cX1_goOut 47 = .ok (.getfield 26, 3) := by decide +kernel
theorem dX1_goOut_50 : decode cX1_goOut 50 = .ok (.iload 6, 2) := by decide +kernel
theorem dX1_goOut_52 : decode cX1_goOut 52 = .ok (.iload_n 3, 1) := by decide +kernel
theorem dX1_goOut_53 : decode cX1_goOut 53 = .ok (.iload 4, 2) := by decide +kernel
theorem dX1_goOut_55 : decode cX1_goOut 55 = .ok (.invokevirtual 56, 3) := by decide +kernel
theorem dX1_goOut_58 : decode cX1_goOut 58 = .ok (.aload_n 0, 1) := by decide +kernel
theorem dX1_goOut_59 : decode cX1_goOut 59 = .ok (.getfield 26, 3) := by decide +kernel
theorem dX1_goOut_62 : decode cX1_goOut 62 = .ok (.getfield 60, 3) := by decide +kernel
theorem dX1_goOut_65 : decode cX1_goOut 65 = .ok (.iload 6, 2) := by decide +kernel
theorem dX1_goOut_67 : decode cX1_goOut 67 = .ok (.aload_n 0, 1) := by decide +kernel
theorem dX1_goOut_68 : decode cX1_goOut 68 = .ok (.getfield 37, 3) := by decide +kernel
theorem dX1_goOut_71 : decode cX1_goOut 71 = .ok (.iastore, 1) := by decide +kernel
theorem dX1_goOut_72 : decode cX1_goOut 72 = .ok (.iload 5, 2) := by decide +kernel
theorem dX1_goOut_74 : decode cX1_goOut 74 = .ok (.iconst 2, 1) := by decide +kernel
theorem dX1_goOut_75 : decode cX1_goOut 75 = .ok (.if_icmp .ne 17, 3) := by decide +kernel
theorem dX1_goOut_78 : decode cX1_goOut 78 = .ok (.aload_n 0, 1) := by decide +kernel
theorem dX1_goOut_79 : decode cX1_goOut 79 = .ok (.getfield 26, 3) := by decide +kernel
theorem dX1_goOut_82 : decode cX1_goOut 82 = .ok (.getfield 63, 3) := by decide +kernel
theorem dX1_goOut_85 : decode cX1_goOut 85 = .ok (.iload 6, 2) := by decide +kernel
theorem dX1_goOut_87 : decode cX1_goOut 87 = .ok (.iconst 2, 1) := by decide +kernel
theorem dX1_goOut_88 : decode cX1_goOut 88 = .ok (.iastore, 1) := by decide +kernel
theorem dX1_goOut_89 : decode cX1_goOut 89 = .ok (.goto 34, 3) := by decide +kernel
theorem dX1_goOut_92 : decode cX1_goOut 92 = .ok (.iload 5, 2) := by decide +kernel
theorem dX1_goOut_94 : decode cX1_goOut 94 = .ok (.iconst 1, 1) := by decide +kernel
theorem dX1_goOut_95 : decode cX1_goOut 95 = .ok (.if_icmp .ne 28, 3) := by decide +kernel
theorem dX1_goOut_98 : decode cX1_goOut 98 = .ok (.aload_n 0, 1) := by decide +kernel
theorem dX1_goOut_99 : decode cX1_goOut 99 = .ok (.getfield 26, 3) := by decide +kernel
theorem dX1_goOut_102 : decode cX1_goOut 102 = .ok (.getfield 63, 3) := by decide +kernel
theorem dX1_goOut_105 : decode cX1_goOut 105 = .ok (.iload 6, 2) := by decide +kernel
theorem dX1_goOut_107 : decode cX1_goOut 107 = .ok (.iaload, 1) := by decide +kernel
theorem dX1_goOut_108 : decode cX1_goOut 108 = .ok (.iconst 2, 1) := by decide +kernel
theorem dX1_goOut_109 : decode cX1_goOut 109 = .ok (.if_icmp .ne 14, 3) := by decide +kernel
theorem dX1_goOut_112 : decode cX1_goOut 112 = .ok (.aload_n 0, 1) := by decide +kernel
theorem dX1_goOut_113 : decode cX1_goOut 113 = .ok (.getfield 26, 3) := by decide +kernel
theorem dX1_goOut_116 : decode cX1_goOut 116 = .ok (.getfield 63, 3) := by decide +kernel
theorem dX1_goOut_119 : decode cX1_goOut 119 = .ok (.iload 6, 2) := by decide +kernel
theorem dX1_goOut_121 : decode cX1_goOut 121 = .ok (.iconst 0, 1) := by decide +kernel
theorem dX1_goOut_122 : decode cX1_goOut 122 = .ok (.iastore, 1) := by decide +kernel
theorem dX1_goOut_123 : decode cX1_goOut 123 = .ok (.iload 6, 2) := by decide +kernel
theorem dX1_goOut_125 : decode cX1_goOut 125 = .ok (.ireturn, 1) := by decide +kernel
theorem dX1_makeBinding_0 : decode cX1_makeBinding 0 = .ok (.aload_n 0, 1) := by decide +kernel
theorem dX1_makeBinding_1 : decode cX1_makeBinding 1 = .ok (.iload_n 1, 1) := by decide +kernel
theorem dX1_makeBinding_2 : decode cX1_makeBinding 2 = .ok (.iload_n 2, 1) := by decide +kernel
theorem dX1_makeBinding_3 : decode cX1_makeBinding 3 = .ok (.invokevirtual 66, 3) := by decide +kernel
theorem dX1_makeBinding_6 : decode cX1_makeBinding 6 = .ok (.istore 5, 2) := by decide +kernel
theorem dX1_makeBinding_8 : decode cX1_makeBinding 8 = .ok (.iload 5, 2) := by decide +kernel
theorem dX1_makeBinding_10 : decode cX1_makeBinding 10 = .ok (.bipush (-6), 2) := by decide +kernel
theorem dX1_makeBinding_12 : decode cX1_makeBinding 12 = .ok (.if_icmp .ne 6, 3) := by decide +kernel
theorem dX1_makeBinding_15 : decode cX1_makeBinding 15 = .ok (.bipush (-6), 2) := by decide +kernel
theorem dX1_makeBinding_17 : decode cX1_makeBinding 17 = .ok (.ireturn, 1) := by decide +kernel
theorem dX1_makeBinding_18 : decode cX1_makeBinding 18 = .ok (.aload_n 0, 1) := by decide +kernel
theorem dX1_makeBinding_19 : decode cX1_makeBinding 19 = .ok (.getfield 18, 3) := by decide +kernel
theorem dX1_makeBinding_22 : decode cX1_makeBinding 22 = .ok (.iconst 0, 1) := by decide +kernel
theorem dX1_makeBinding_23 : decode cX1_makeBinding 23 = .ok (.iaload, 1) := by decide +kernel
theorem dX1_makeBinding_24 : decode cX1_makeBinding 24 = .ok (.iconst 1, 1) := by decide +kernel
theorem dX1_makeBinding_25 : decode cX1_makeBinding 25 = .ok (.if_icmp .lt 7, 3) := by decide +kernel
theorem dX1_makeBinding_28 : decode cX1_makeBinding 28 = .ok (.iload_n 3, 1) := by decide +kernel
theorem dX1_makeBinding_29 : decode cX1_makeBinding 29 = .ok (.goto 5, 3) := by decide +kernel
theorem dX1_makeBinding_32 : decode cX1_makeBinding 32 = .ok (.bipush (-6), 2) := by decide +kernel
theorem dX1_makeBinding_34 : decode cX1_makeBinding 34 = .ok (.istore 6, 2) := by decide +kernel
theorem dX1_makeBinding_36 : decode cX1_makeBinding 36 = .ok (.aload_n 0, 1) := by decide +kernel
theorem dX1_makeBinding_37 : decode cX1_makeBinding 37 = .ok (.getfield 18, 3) := by decide +kernel
theorem dX1_makeBinding_40 : decode cX1_makeBinding 40 = .ok (.iconst 0, 1) := by decide +kernel
theorem dX1_makeBinding_41 : decode cX1_makeBinding 41 = .ok (.iaload, 1) := by decide +kernel
theorem dX1_makeBinding_42 : decode cX1_makeBinding 42 = .ok (.iconst 2, 1) := by decide +kernel
theorem dX1_makeBinding_43 : decode cX1_makeBinding 43 = .ok (.if_icmp .lt 8, 3) := by decide +kernel
theorem dX1_makeBinding_46 : decode cX1_makeBinding 46 = .ok (.iload 4, 2) := by decide +kernel
theorem dX1_makeBinding_48 : decode cX1_makeBinding 48 = .ok (.goto 5, 3) := by decide +kernel
theorem dX1_makeBinding_51 : decode cX1_makeBinding 51 = .ok (.bipush (-6), 2) := by decide +kernel
theorem dX1_makeBinding_53 : decode cX1_makeBinding 53 = .ok (.istore 7, 2) := by decide +kernel
theorem dX1_makeBinding_55 : decode cX1_makeBinding 55 = .ok (.aload_n 0, 1) := by decide +kernel
theorem dX1_makeBinding_56 : decode cX1_makeBinding 56 = .ok (.getfield 26, 3) := by decide +kernel
theorem dX1_makeBinding_59 : decode cX1_makeBinding 59 = .ok (.iload 5, 2) := by decide +kernel
theorem dX1_makeBinding_61 : decode cX1_makeBinding 61 = .ok (.iload_n 1, 1) := by decide +kernel
theorem dX1_makeBinding_62 : decode cX1_makeBinding 62 = .ok (.bipush 32, 2) := by decide +kernel
theorem dX1_makeBinding_64 : decode cX1_makeBinding 64 = .ok (.imul, 1) := by decide +kernel
theorem dX1_makeBinding_65 : decode cX1_makeBinding 65 = .ok (.iload_n 2, 1) := by decide +kernel
theorem dX1_makeBinding_66 : decode cX1_makeBinding 66 = .ok (.iadd, 1) := by decide +kernel
theorem dX1_makeBinding_67 : decode cX1_makeBinding 67 = .ok (.iload 6, 2) := by decide +kernel
theorem dX1_makeBinding_69 : decode cX1_makeBinding 69 = .ok (.iload 7, 2) := by decide +kernel
theorem dX1_makeBinding_71 : decode cX1_makeBinding 71 = .ok (.invokevirtual 70, 3) := by decide +kernel
theorem dX1_makeBinding_74 : decode cX1_makeBinding 74 = .ok (.iload 5, 2) := by decide +kernel
theorem dX1_makeBinding_76 : decode cX1_makeBinding 76 = .ok (.ireturn, 1) := by decide +kernel
theorem dX1_comeIn_0 : decode cX1_comeIn 0 = .ok (.aload_n 0, 1) := by decide +kernel
theorem dX1_comeIn_1 : decode cX1_comeIn 1 = .ok (.iload_n 1, 1) := by decide +kernel
theorem dX1_comeIn_2 : decode cX1_comeIn 2 = .ok (.iload_n 2, 1) := by decide +kernel
theorem dX1_comeIn_3 : decode cX1_comeIn 3 = .ok (.iload_n 3, 1) := by decide +kernel
theorem dX1_comeIn_4 : decode cX1_comeIn 4 = .ok (.invokevirtual 74, 3) := by decide +kernel
theorem dX1_comeIn_7 : decode cX1_comeIn 7 = .ok (.ifCond .eq 6, 3) := by decide +kernel
theorem dX1_comeIn_10 : decode cX1_comeIn 10 = .ok (.bipush (-6), 2) := by decide +kernel
theorem dX1_comeIn_12 : decode cX1_comeIn 12 = .ok (.ireturn, 1) := by decide +kernel
theorem dX1_comeIn_13 : decode cX1_comeIn 13 = .ok (.aload_n 0, 1) := by decide +kernel
theorem dX1_comeIn_14 : decode cX1_comeIn 14 = .ok (.getfield 26, 3) := by decide +kernel
theorem dX1_comeIn_17 : decode cX1_comeIn 17 = .ok (.getfield 60, 3) := by decide +kernel
theorem dX1_comeIn_20 : decode cX1_comeIn 20 = .ok (.iload_n 3, 1) := by decide +kernel
theorem dX1_comeIn_21 : decode cX1_comeIn 21 = .ok (.aload_n 0, 1) := by decide +kernel
theorem dX1_comeIn_22 : decode cX1_comeIn 22 = .ok (.getfield 37, 3) := by decide +kernel
theorem dX1_comeIn_25 : decode cX1_comeIn 25 = .ok (.iastore, 1) := by decide +kernel
theorem dX1_comeIn_26 : decode cX1_comeIn 26 = .ok (.iload 4, 2) := by decide +kernel
theorem dX1_comeIn_28 : decode cX1_comeIn 28 = .ok (.iconst 2, 1) := by decide +kernel
theorem dX1_comeIn_29 : decode cX1_comeIn 29 = .ok (.if_icmp .ne 16, 3) := by decide +kernel
theorem dX1_comeIn_32 : decode cX1_comeIn 32 = .ok (.aload_n 0, 1) := by decide +kernel
theorem dX1_comeIn_33 : decode cX1_comeIn 33 = .ok (.getfield 26, 3) := by decide +kernel
theorem dX1_comeIn_36 : decode cX1_comeIn 36 = .ok (.getfield 63, 3) := by decide +kernel
theorem dX1_comeIn_39 : decode cX1_comeIn 39 = .ok (.iload_n 3, 1) := by decide +kernel
theorem dX1_comeIn_40 : decode cX1_comeIn 40 = .ok (.iconst 2, 1) := by decide +kernel
theorem dX1_comeIn_41 : decode cX1_comeIn 41 = .ok (.iastore, 1) := by decide +kernel
theorem dX1_comeIn_42 : decode cX1_comeIn 42 = .ok (.goto 25, 3) := by decide +kernel
theorem dX1_comeIn_45 : decode cX1_comeIn 45 = .ok (.aload_n 0, 1) := by decide +kernel
theorem dX1_comeIn_46 : decode cX1_comeIn 46 = .ok (.getfield 26, 3) := by decide +kernel
theorem dX1_comeIn_49 : decode cX1_comeIn 49 = .ok (.getfield 63, 3) := by decide +kernel
theorem dX1_comeIn_52 : decode cX1_comeIn 52 = .ok (.iload_n 3, 1) := by decide +kernel
theorem dX1_comeIn_53 : decode cX1_comeIn 53 = .ok (.iaload, 1) := by decide +kernel
theorem dX1_comeIn_54 : decode cX1_comeIn 54 = .ok (.ifCond .ne 13, 3) := by decide +kernel
theorem dX1_comeIn_57 : decode cX1_comeIn 57 = .ok (.aload_n 0, 1) := by decide +kernel
theorem dX1_comeIn_58 : decode cX1_comeIn 58 = .ok (.getfield 26, 3) := by decide +kernel
theorem dX1_comeIn_61 : decode cX1_comeIn 61 = .ok (.getfield 63, 3) := by decide +kernel
theorem dX1_comeIn_64 : decode cX1_comeIn 64 = .ok (.iload_n 3, 1) := by decide +kernel
theorem dX1_comeIn_65 : decode cX1_comeIn 65 = .ok (.iconst 1, 1) := by decide +kernel
theorem dX1_comeIn_66 : decode cX1_comeIn 66 = .ok (.iastore, 1) := by decide +kernel
theorem dX1_comeIn_67 : decode cX1_comeIn 67 = .ok (.aload_n 0, 1) := by decide +kernel
theorem dX1_comeIn_68 : decode cX1_comeIn 68 = .ok (.getfield 26, 3) := by decide +kernel
theorem dX1_comeIn_71 : decode cX1_comeIn 71 = .ok (.getfield 77, 3) := by decide +kernel
theorem dX1_comeIn_74 : decode cX1_comeIn 74 = .ok (.iload_n 3, 1) := by decide +kernel
theorem dX1_comeIn_75 : decode cX1_comeIn 75 = .ok (.iaload, 1) := by decide +kernel
theorem dX1_comeIn_76 : decode cX1_comeIn 76 = .ok (.ireturn, 1) := by decide +kernel
theorem dX1_reasonAgainst_0 : decode cX1_reasonAgainst 0 = .ok (.aload_n 0, 1) := by decide +kernel
theorem dX1_reasonAgainst_1 : decode cX1_reasonAgainst 1 = .ok (.getfield 26, 3) := by decide +kernel
theorem dX1_reasonAgainst_4 : decode cX1_reasonAgainst 4 = .ok (.iload_n 3, 1) := by decide +kernel
theorem dX1_reasonAgainst_5 : decode cX1_reasonAgainst 5 = .ok (.invokevirtual 80, 3) := by decide +kernel
theorem dX1_reasonAgainst_8 : decode cX1_reasonAgainst 8 = .ok (.ifCond .ne 5, 3) := by decide +kernel
theorem dX1_reasonAgainst_11 : decode cX1_reasonAgainst 11 = .ok (.iconst 1, 1) := by decide +kernel
theorem dX1_reasonAgainst_12 : decode cX1_reasonAgainst 12 = .ok (.ireturn, 1) := by decide +kernel
theorem dX1_reasonAgainst_13 : decode cX1_reasonAgainst 13 = .ok (.aload_n 0, 1) := by decide +kernel
theorem dX1_reasonAgainst_14 : decode cX1_reasonAgainst 14 = .ok (.getfield 18, 3) := by decide +kernel
theorem dX1_reasonAgainst_17 : decode cX1_reasonAgainst 17 = .ok (.iconst 1, 1) := by decide +kernel
theorem dX1_reasonAgainst_18 : decode cX1_reasonAgainst 18 = .ok (.iaload, 1) := by decide +kernel
theorem dX1_reasonAgainst_19 : decode cX1_reasonAgainst 19 = .ok (.iconst 1, 1) := by decide +kernel
theorem dX1_reasonAgainst_20 : decode cX1_reasonAgainst 20 = .ok (.if_icmp .ne 17, 3) := by decide +kernel
theorem dX1_reasonAgainst_23 : decode cX1_reasonAgainst 23 = .ok (.aload_n 0, 1) := by decide +kernel
theorem dX1_reasonAgainst_24 : decode cX1_reasonAgainst 24 = .ok (.getfield 26, 3) := by decide +kernel
theorem dX1_reasonAgainst_27 : decode cX1_reasonAgainst 27 = .ok (.iload_n 3, 1) := by decide +kernel
theorem dX1_reasonAgainst_28 : decode cX1_reasonAgainst 28 = .ok (.iload_n 1, 1) := by decide +kernel
theorem dX1_reasonAgainst_29 : decode cX1_reasonAgainst 29 = .ok (.invokevirtual 84, 3) := by decide +kernel
theorem dX1_reasonAgainst_32 : decode cX1_reasonAgainst 32 = .ok (.ifCond .ne 5, 3) := by decide +kernel
theorem dX1_reasonAgainst_35 : decode cX1_reasonAgainst 35 = .ok (.iconst 2, 1) := by decide +kernel
theorem dX1_reasonAgainst_36 : decode cX1_reasonAgainst 36 = .ok (.ireturn, 1) := by decide +kernel
theorem dX1_reasonAgainst_37 : decode cX1_reasonAgainst 37 = .ok (.aload_n 0, 1) := by decide +kernel
theorem dX1_reasonAgainst_38 : decode cX1_reasonAgainst 38 = .ok (.getfield 18, 3) := by decide +kernel
theorem dX1_reasonAgainst_41 : decode cX1_reasonAgainst 41 = .ok (.iconst 1, 1) := by decide +kernel
theorem dX1_reasonAgainst_42 : decode cX1_reasonAgainst 42 = .ok (.iaload, 1) := by decide +kernel
theorem dX1_reasonAgainst_43 : decode cX1_reasonAgainst 43 = .ok (.iconst 2, 1) := by decide +kernel
theorem dX1_reasonAgainst_44 : decode cX1_reasonAgainst 44 = .ok (.if_icmp .ne 18, 3) := by decide +kernel
theorem dX1_reasonAgainst_47 : decode cX1_reasonAgainst 47 = .ok (.aload_n 0, 1) := by decide +kernel
theorem dX1_reasonAgainst_48 : decode cX1_reasonAgainst 48 = .ok (.getfield 26, 3) := by decide +kernel
theorem dX1_reasonAgainst_51 : decode cX1_reasonAgainst 51 = .ok (.iload_n 3, 1) := by decide +kernel
theorem dX1_reasonAgainst_52 : decode cX1_reasonAgainst 52 = .ok (.iload_n 1, 1) := by decide +kernel
theorem dX1_reasonAgainst_53 : decode cX1_reasonAgainst 53 = .ok (.iload_n 2, 1) := by decide +kernel
theorem dX1_reasonAgainst_54 : decode cX1_reasonAgainst 54 = .ok (.invokevirtual 88, 3) := by decide +kernel
theorem dX1_reasonAgainst_57 : decode cX1_reasonAgainst 57 = .ok (.ifCond .ne 5, 3) := by decide +kernel
theorem dX1_reasonAgainst_60 : decode cX1_reasonAgainst 60 = .ok (.iconst 2, 1) := by decide +kernel
theorem dX1_reasonAgainst_61 : decode cX1_reasonAgainst 61 = .ok (.ireturn, 1) := by decide +kernel
theorem dX1_reasonAgainst_62 : decode cX1_reasonAgainst 62 = .ok (.iconst 0, 1) := by decide +kernel
theorem dX1_reasonAgainst_63 : decode cX1_reasonAgainst 63 = .ok (.ireturn, 1) := by decide +kernel
theorem dX1_takeFirstPart_0 : decode cX1_takeFirstPart 0 = .ok (.aload_n 0, 1) := by decide +kernel
theorem dX1_takeFirstPart_1 : decode cX1_takeFirstPart 1 = .ok (.iload_n 2, 1) := by decide +kernel
theorem dX1_takeFirstPart_2 : decode cX1_takeFirstPart 2 = .ok (.iload_n 3, 1) := by decide +kernel
theorem dX1_takeFirstPart_3 : decode cX1_takeFirstPart 3 = .ok (.iload 4, 2) := by decide +kernel
theorem dX1_takeFirstPart_5 : decode cX1_takeFirstPart 5 = .ok (.iconst 0, 1) := by decide +kernel
theorem dX1_takeFirstPart_6 : decode cX1_takeFirstPart 6 = .ok (.invokevirtual 92, 3) := by decide +kernel
theorem dX1_takeFirstPart_9 : decode cX1_takeFirstPart 9 = .ok (.bipush (-6), 2) := by decide +kernel
theorem dX1_takeFirstPart_11 : decode cX1_takeFirstPart 11 = .ok (.if_icmp .eq 7, 3) := by decide +kernel
theorem dX1_takeFirstPart_14 : decode cX1_takeFirstPart 14 = .ok (.iconst 1, 1) := by decide +kernel
theorem dX1_takeFirstPart_15 : decode cX1_takeFirstPart 15 = .ok (.goto 4, 3) := by decide +kernel
theorem dX1_takeFirstPart_18 : decode cX1_takeFirstPart 18 = .ok (.iconst 0, 1) := by decide +kernel
theorem dX1_takeFirstPart_19 : decode cX1_takeFirstPart 19 = .ok (.istore 5, 2) := by decide +kernel
theorem dX1_takeFirstPart_21 : decode cX1_takeFirstPart 21 = .ok (.aload_n 0, 1) := by decide +kernel
theorem dX1_takeFirstPart_22 : decode cX1_takeFirstPart 22 = .ok (.getfield 33, 3) := by decide +kernel
theorem dX1_takeFirstPart_25 : decode cX1_takeFirstPart 25 = .ok (.iload_n 1, 1) := by decide +kernel
theorem dX1_takeFirstPart_26 : decode cX1_takeFirstPart 26 = .ok (.invokevirtual 95, 3) := by decide +kernel
theorem dX1_takeFirstPart_29 : decode cX1_takeFirstPart 29 = .ok (.istore 6, 2) := by decide +kernel
theorem dX1_takeFirstPart_31 : decode cX1_takeFirstPart 31 = .ok (.iload 5, 2) := by decide +kernel
theorem dX1_takeFirstPart_33 : decode cX1_takeFirstPart 33 = .ok (.ifCond .ne 14, 3) := by decide +kernel
theorem dX1_takeFirstPart_36 : decode cX1_takeFirstPart 36 = .ok (.aload_n 0, 1) := by decide +kernel
theorem dX1_takeFirstPart_37 : decode cX1_takeFirstPart 37 = .ok (.getfield 33, 3) := by decide +kernel
theorem dX1_takeFirstPart_40 : decode cX1_takeFirstPart 40 = .ok (.iload_n 1, 1) := by decide +kernel
theorem dX1_takeFirstPart_41 : decode cX1_takeFirstPart 41 = .ok (.invokevirtual 99, 3) := by decide +kernel
theorem dX1_takeFirstPart_44 : decode cX1_takeFirstPart 44 = .ok (.bipush (-6), 2) := by decide +kernel
theorem dX1_takeFirstPart_46 : decode cX1_takeFirstPart 46 = .ok (.ireturn, 1) := by decide +kernel
theorem dX1_takeFirstPart_47 : decode cX1_takeFirstPart 47 = .ok (.aload_n 0, 1) := by decide +kernel
theorem dX1_takeFirstPart_48 : decode cX1_takeFirstPart 48 = .ok (.getfield 33, 3) := by decide +kernel
theorem dX1_takeFirstPart_51 : decode cX1_takeFirstPart 51 = .ok (.iload_n 1, 1) := by decide +kernel
theorem dX1_takeFirstPart_52 : decode cX1_takeFirstPart 52 = .ok (.iload 4, 2) := by decide +kernel
theorem dX1_takeFirstPart_54 : decode cX1_takeFirstPart 54 = .ok (.aload_n 0, 1) := by decide +kernel
theorem dX1_takeFirstPart_55 : decode cX1_takeFirstPart 55 = .ok (.getfield 37, 3) := by decide +kernel
theorem dX1_takeFirstPart_58 : decode cX1_takeFirstPart 58 = .ok (.invokevirtual 103, 3) := by decide +kernel
theorem dX1_takeFirstPart_61 : decode cX1_takeFirstPart 61 = .ok (.iconst 1, 1) := by decide +kernel
theorem dX1_takeFirstPart_62 : decode cX1_takeFirstPart 62 = .ok (.iload 6, 2) := by decide +kernel
theorem dX1_takeFirstPart_64 : decode cX1_takeFirstPart 64 = .ok (.iadd, 1) := by decide +kernel
theorem dX1_takeFirstPart_65 : decode cX1_takeFirstPart 65 = .ok (.ireturn, 1) := by decide +kernel
theorem dX1_takeOtherPart_0 : decode cX1_takeOtherPart 0 = .ok (.aload_n 0, 1) := by decide +kernel
theorem dX1_takeOtherPart_1 : decode cX1_takeOtherPart 1 = .ok (.getfield 33, 3) := by decide +kernel
theorem dX1_takeOtherPart_4 : decode cX1_takeOtherPart 4 = .ok (.iload_n 1, 1) := by decide +kernel
theorem dX1_takeOtherPart_5 : decode cX1_takeOtherPart 5 = .ok (.invokevirtual 106, 3) := by decide +kernel
theorem dX1_takeOtherPart_8 : decode cX1_takeOtherPart 8 = .ok (.ifCond .eq 7, 3) := by decide +kernel
theorem dX1_takeOtherPart_11 : decode cX1_takeOtherPart 11 = .ok (.iconst 1, 1) := by decide +kernel
theorem dX1_takeOtherPart_12 : decode cX1_takeOtherPart 12 = .ok (.goto 16, 3) := by decide +kernel
theorem dX1_takeOtherPart_15 : decode cX1_takeOtherPart 15 = .ok (.aload_n 0, 1) := by decide +kernel
theorem dX1_takeOtherPart_16 : decode cX1_takeOtherPart 16 = .ok (.getfield 33, 3) := by decide +kernel
theorem dX1_takeOtherPart_19 : decode cX1_takeOtherPart 19 = .ok (.iload_n 1, 1) := by decide +kernel
theorem dX1_takeOtherPart_20 : decode cX1_takeOtherPart 20 = .ok (.iload_n 2, 1) := by decide +kernel
theorem dX1_takeOtherPart_21 : decode cX1_takeOtherPart 21 = .ok (.aload_n 0, 1) := by decide +kernel
theorem dX1_takeOtherPart_22 : decode cX1_takeOtherPart 22 = .ok (.getfield 37, 3) := by decide +kernel
theorem dX1_takeOtherPart_25 : decode cX1_takeOtherPart 25 = .ok (.invokevirtual 109, 3) := by decide +kernel
theorem dX1_takeOtherPart_28 : decode cX1_takeOtherPart 28 = .ok (.ireturn, 1) := by decide +kernel
theorem dX1_passTicks_0 : decode cX1_passTicks 0 = .ok (.aload_n 0, 1) := by decide +kernel
theorem dX1_passTicks_1 : decode cX1_passTicks 1 = .ok (.dup, 1) := by decide +kernel
theorem dX1_passTicks_2 : decode cX1_passTicks 2 = .ok (.getfield 37, 3) := by decide +kernel
theorem dX1_passTicks_5 : decode cX1_passTicks 5 = .ok (.iload_n 1, 1) := by decide +kernel
theorem dX1_passTicks_6 : decode cX1_passTicks 6 = .ok (.iadd, 1) := by decide +kernel
theorem dX1_passTicks_7 : decode cX1_passTicks 7 = .ok (.putfield 37, 3) := by decide +kernel
theorem dX1_passTicks_10 : decode cX1_passTicks 10 = .ok (.aload_n 0, 1) := by decide +kernel
theorem dX1_passTicks_11 : decode cX1_passTicks 11 = .ok (.getfield 33, 3) := by decide +kernel
theorem dX1_passTicks_14 : decode cX1_passTicks 14 = .ok (.aload_n 0, 1) := by decide +kernel
theorem dX1_passTicks_15 : decode cX1_passTicks 15 = .ok (.getfield 37, 3) := by decide +kernel
theorem dX1_passTicks_18 : decode cX1_passTicks 18 = .ok (.invokevirtual 112, 3) := by decide +kernel
theorem dX1_passTicks_21 : decode cX1_passTicks 21 = .ok (.aload_n 0, 1) := by decide +kernel
theorem dX1_passTicks_22 : decode cX1_passTicks 22 = .ok (.invokevirtual 44, 3) := by decide +kernel
theorem dX1_passTicks_25 : decode cX1_passTicks 25 = .ok (.ireturn, 1) := by decide +kernel
theorem dX1_choose_0 : decode cX1_choose 0 = .ok (.iload_n 2, 1) := by decide +kernel
theorem dX1_choose_1 : decode cX1_choose 1 = .ok (.bipush 16, 2) := by decide +kernel
theorem dX1_choose_3 : decode cX1_choose 3 = .ok (.irem, 1) := by decide +kernel
theorem dX1_choose_4 : decode cX1_choose 4 = .ok (.istore_n 3, 1) := by decide +kernel
theorem dX1_choose_5 : decode cX1_choose 5 = .ok (.iload_n 3, 1) := by decide +kernel
theorem dX1_choose_6 : decode cX1_choose 6 = .ok (.iconst 4, 1) := by decide +kernel
theorem dX1_choose_7 : decode cX1_choose 7 = .ok (.idiv, 1) := by decide +kernel
theorem dX1_choose_8 : decode cX1_choose 8 = .ok (.istore 4, 2) := by decide +kernel
theorem dX1_choose_10 : decode cX1_choose 10 = .ok (.aload_n 0, 1) := by decide +kernel
theorem dX1_choose_11 : decode cX1_choose 11 = .ok (.iload_n 3, 1) := by decide +kernel
theorem dX1_choose_12 : decode cX1_choose 12 = .ok (.iload_n 2, 1) := by decide +kernel
theorem dX1_choose_13 : decode cX1_choose 13 = .ok (.invokevirtual 115, 3) := by decide +kernel
theorem dX1_choose_16 : decode cX1_choose 16 = .ok (.ifCond .eq 18, 3) := by decide +kernel
theorem dX1_choose_19 : decode cX1_choose 19 = .ok (.aload_n 0, 1) := by decide +kernel
theorem dX1_choose_20 : decode cX1_choose 20 = .ok (.getfield 26, 3) := by decide +kernel
theorem dX1_choose_23 : decode cX1_choose 23 = .ok (.iload 4, 2) := by decide +kernel
theorem dX1_choose_25 : decode cX1_choose 25 = .ok (.invokevirtual 118, 3) := by decide +kernel
theorem dX1_choose_28 : decode cX1_choose 28 = .ok (.iload_n 1, 1) := by decide +kernel
theorem dX1_choose_29 : decode cX1_choose 29 = .ok (.if_icmp .ne 5, 3) := by decide +kernel
theorem dX1_choose_32 : decode cX1_choose 32 = .ok (.iload_n 3, 1) := by decide +kernel
theorem dX1_choose_33 : decode cX1_choose 33 = .ok (.ireturn, 1) := by decide +kernel
theorem dX1_choose_34 : decode cX1_choose 34 = .ok (.aload_n 0, 1) := by decide +kernel
theorem dX1_choose_35 : decode cX1_choose 35 = .ok (.iload_n 1, 1) := by decide +kernel
theorem dX1_choose_36 : decode cX1_choose 36 = .ok (.iload_n 2, 1) := by decide +kernel
theorem dX1_choose_37 : decode cX1_choose 37 = .ok (.invokevirtual 121, 3) := by decide +kernel
theorem dX1_choose_40 : decode cX1_choose 40 = .ok (.istore 5, 2) := by decide +kernel
theorem dX1_choose_42 : decode cX1_choose 42 = .ok (.iload 5, 2) := by decide +kernel
theorem dX1_choose_44 : decode cX1_choose 44 = .ok (.bipush (-6), 2) := by decide +kernel
theorem dX1_choose_46 : decode cX1_choose 46 = .ok (.if_icmp .eq 6, 3) := by decide +kernel
theorem dX1_choose_49 : decode cX1_choose 49 = .ok (.iload 5, 2) := by decide +kernel
theorem dX1_choose_51 : decode cX1_choose 51 = .ok (.ireturn, 1) := by decide +kernel
theorem dX1_choose_52 : decode cX1_choose 52 = .ok (.aload_n 0, 1) := by decide +kernel
theorem dX1_choose_53 : decode cX1_choose 53 = .ok (.getfield 26, 3) := by decide +kernel
theorem dX1_choose_56 : decode cX1_choose 56 = .ok (.iload 4, 2) := by decide +kernel
theorem dX1_choose_58 : decode cX1_choose 58 = .ok (.invokevirtual 118, 3) := by decide +kernel
theorem dX1_choose_61 : decode cX1_choose 61 = .ok (.bipush (-6), 2) := by decide +kernel
theorem dX1_choose_63 : decode cX1_choose 63 = .ok (.if_icmp .ne 5, 3) := by decide +kernel
theorem dX1_choose_66 : decode cX1_choose 66 = .ok (.iload_n 3, 1) := by decide +kernel
theorem dX1_choose_67 : decode cX1_choose 67 = .ok (.ireturn, 1) := by decide +kernel
theorem dX1_choose_68 : decode cX1_choose 68 = .ok (.aload_n 0, 1) := by decide +kernel
theorem dX1_choose_69 : decode cX1_choose 69 = .ok (.bipush (-6), 2) := by decide +kernel
theorem dX1_choose_71 : decode cX1_choose 71 = .ok (.iload_n 2, 1) := by decide +kernel
theorem dX1_choose_72 : decode cX1_choose 72 = .ok (.invokevirtual 121, 3) := by decide +kernel
theorem dX1_choose_75 : decode cX1_choose 75 = .ok (.ireturn, 1) := by decide +kernel
theorem dX1_isFit_0 : decode cX1_isFit 0 = .ok (.aload_n 0, 1) := by decide +kernel
theorem dX1_isFit_1 : decode cX1_isFit 1 = .ok (.getfield 26, 3) := by decide +kernel
theorem dX1_isFit_4 : decode cX1_isFit 4 = .ok (.iload_n 1, 1) := by decide +kernel
theorem dX1_isFit_5 : decode cX1_isFit 5 = .ok (.invokevirtual 80, 3) := by decide +kernel
theorem dX1_isFit_8 : decode cX1_isFit 8 = .ok (.ifCond .ne 25, 3) := by decide +kernel
theorem dX1_isFit_11 : decode cX1_isFit 11 = .ok (.aload_n 0, 1) := by decide +kernel
theorem dX1_isFit_12 : decode cX1_isFit 12 = .ok (.getfield 18, 3) := by decide +kernel
theorem dX1_isFit_15 : decode cX1_isFit 15 = .ok (.iconst 2, 1) := by decide +kernel
theorem dX1_isFit_16 : decode cX1_isFit 16 = .ok (.iaload, 1) := by decide +kernel
theorem dX1_isFit_17 : decode cX1_isFit 17 = .ok (.ifCond .eq 12, 3) := by decide +kernel
theorem dX1_isFit_20 : decode cX1_isFit 20 = .ok (.iload_n 1, 1) := by decide +kernel
theorem dX1_isFit_21 : decode cX1_isFit 21 = .ok (.iconst 2, 1) := by decide +kernel
theorem dX1_isFit_22 : decode cX1_isFit 22 = .ok (.irem, 1) := by decide +kernel
theorem dX1_isFit_23 : decode cX1_isFit 23 = .ok (.iload_n 2, 1) := by decide +kernel
theorem dX1_isFit_24 : decode cX1_isFit 24 = .ok (.iconst 2, 1) := by decide +kernel
theorem dX1_isFit_25 : decode cX1_isFit 25 = .ok (.irem, 1) := by decide +kernel
theorem dX1_isFit_26 : decode cX1_isFit 26 = .ok (.if_icmp .ne 7, 3) := by decide +kernel
theorem dX1_isFit_29 : decode cX1_isFit 29 = .ok (.iconst 1, 1) := by decide +kernel
theorem dX1_isFit_30 : decode cX1_isFit 30 = .ok (.goto 4, 3) := by decide +kernel
theorem dX1_isFit_33 : decode cX1_isFit 33 = .ok (.iconst 0, 1) := by decide +kernel
theorem dX1_isFit_34 : decode cX1_isFit 34 = .ok (.ireturn, 1) := by decide +kernel
theorem dX1_leastFitOfHolder_0 : decode cX1_leastFitOfHolder 0 = .ok (.iconst 0, 1) := by decide +kernel
theorem dX1_leastFitOfHolder_1 : decode cX1_leastFitOfHolder 1 = .ok (.istore_n 3, 1) := by decide +kernel
theorem dX1_leastFitOfHolder_2 : decode cX1_leastFitOfHolder 2 = .ok (.iload_n 3, 1) := by decide +kernel
theorem dX1_leastFitOfHolder_3 : decode cX1_leastFitOfHolder 3 = .ok (.bipush 16, 2) := by decide +kernel
theorem dX1_leastFitOfHolder_5 : decode cX1_leastFitOfHolder 5 = .ok (.if_icmp .ge 34, 3) := by decide +kernel
theorem dX1_leastFitOfHolder_8 : decode cX1_leastFitOfHolder 8 = .ok (.aload_n 0, 1) := by decide +kernel
theorem dX1_leastFitOfHolder_9 : decode cX1_leastFitOfHolder 9 = .ok (.getfield 26, 3) := by decide +kernel
theorem dX1_leastFitOfHolder_12 : decode cX1_leastFitOfHolder 12 = .ok (.iload_n 3, 1) := by decide +kernel
theorem dX1_leastFitOfHolder_13 : decode cX1_leastFitOfHolder 13 = .ok (.iconst 4, 1) := by decide +kernel
theorem dX1_leastFitOfHolder_14 : decode cX1_leastFitOfHolder 14 = .ok (.idiv, 1) := by decide +kernel
theorem dX1_leastFitOfHolder_15 : decode cX1_leastFitOfHolder 15 = .ok (.invokevirtual 118, 3) := by decide +kernel
theorem dX1_leastFitOfHolder_18 : decode cX1_leastFitOfHolder 18 = .ok (.iload_n 1, 1) := by decide +kernel
theorem dX1_leastFitOfHolder_19 : decode cX1_leastFitOfHolder 19 = .ok (.if_icmp .ne 14, 3) := by decide +kernel
theorem dX1_leastFitOfHolder_22 : decode cX1_leastFitOfHolder 22 = .ok (.aload_n 0, 1) := by decide +kernel
theorem dX1_leastFitOfHolder_23 : decode cX1_leastFitOfHolder 23 = .ok (.iload_n 3, 1) := by decide +kernel
theorem dX1_leastFitOfHolder_24 : decode cX1_leastFitOfHolder 24 = .ok (.iload_n 2, 1) := by decide +kernel
theorem dX1_leastFitOfHolder_25 : decode cX1_leastFitOfHolder 25 = .ok (.invokevirtual 115, 3) := by decide +kernel
theorem dX1_leastFitOfHolder_28 : decode cX1_leastFitOfHolder 28 = .ok (.ifCond .eq 5, 3) := by decide +kernel
theorem dX1_leastFitOfHolder_31 : decode cX1_leastFitOfHolder 31 = .ok (.iload_n 3, 1) := by decide +kernel
theorem dX1_leastFitOfHolder_32 : decode cX1_leastFitOfHolder 32 = .ok (.ireturn, 1) := by decide +kernel
theorem dX1_leastFitOfHolder_33 : decode cX1_leastFitOfHolder 33 = .ok (.iinc 3 1, 3) := by decide +kernel
theorem dX1_leastFitOfHolder_36 : decode cX1_leastFitOfHolder 36 = .ok (.goto (-34), 3) := by decide +kernel
theorem dX1_leastFitOfHolder_39 : decode cX1_leastFitOfHolder 39 = .ok (.bipush (-6), 2) := by decide +kernel
theorem dX1_leastFitOfHolder_41 : decode cX1_leastFitOfHolder 41 = .ok (.ireturn, 1) := by decide +kernel
theorem dX1_tellOfBinding_0 : decode cX1_tellOfBinding 0 = .ok (.iload_n 2, 1) := by decide +kernel
theorem dX1_tellOfBinding_1 : decode cX1_tellOfBinding 1 = .ok (.tableswitch 80 0 4 #[35, 45, 55, 61, 70], 35) := by decide +kernel
theorem dX1_tellOfBinding_36 : decode cX1_tellOfBinding 36 = .ok (.aload_n 0, 1) := by decide +kernel
theorem dX1_tellOfBinding_37 : decode cX1_tellOfBinding 37 = .ok (.getfield 26, 3) := by decide +kernel
theorem dX1_tellOfBinding_40 : decode cX1_tellOfBinding 40 = .ok (.getfield 77, 3) := by decide +kernel
theorem dX1_tellOfBinding_43 : decode cX1_tellOfBinding 43 = .ok (.iload_n 1, 1) := by decide +kernel
theorem dX1_tellOfBinding_44 : decode cX1_tellOfBinding 44 = .ok (.iaload, 1) := by decide +kernel
theorem dX1_tellOfBinding_45 : decode cX1_tellOfBinding 45 = .ok (.ireturn, 1) := by decide +kernel
theorem dX1_tellOfBinding_46 : decode cX1_tellOfBinding 46 = .ok (.aload_n 0, 1) := by decide +kernel
theorem dX1_tellOfBinding_47 : decode cX1_tellOfBinding 47 = .ok (.getfield 26, 3) := by decide +kernel
theorem dX1_tellOfBinding_50 : decode cX1_tellOfBinding 50 = .ok (.getfield 63, 3) := by decide +kernel
theorem dX1_tellOfBinding_53 : decode cX1_tellOfBinding 53 = .ok (.iload_n 1, 1) := by decide +kernel
theorem dX1_tellOfBinding_54 : decode cX1_tellOfBinding 54 = .ok (.iaload, 1) := by decide +kernel
theorem dX1_tellOfBinding_55 : decode cX1_tellOfBinding 55 = .ok (.ireturn, 1) := by decide +kernel
theorem dX1_tellOfBinding_56 : decode cX1_tellOfBinding 56 = .ok (.aload_n 0, 1) := by decide +kernel
theorem dX1_tellOfBinding_57 : decode cX1_tellOfBinding 57 = .ok (.iload_n 1, 1) := by decide +kernel
theorem dX1_tellOfBinding_58 : decode cX1_tellOfBinding 58 = .ok (.invokevirtual 124, 3) := by decide +kernel
theorem dX1_tellOfBinding_61 : decode cX1_tellOfBinding 61 = .ok (.ireturn, 1) := by decide +kernel
theorem dX1_tellOfBinding_62 : decode cX1_tellOfBinding 62 = .ok (.aload_n 0, 1) := by decide +kernel
theorem dX1_tellOfBinding_63 : decode cX1_tellOfBinding 63 = .ok (.getfield 26, 3) := by decide +kernel
theorem dX1_tellOfBinding_66 : decode cX1_tellOfBinding 66 = .ok (.iload_n 1, 1) := by decide +kernel
theorem dX1_tellOfBinding_67 : decode cX1_tellOfBinding 67 = .ok (.invokevirtual 127, 3) := by decide +kernel
theorem dX1_tellOfBinding_70 : decode cX1_tellOfBinding 70 = .ok (.ireturn, 1) := by decide +kernel
theorem dX1_tellOfBinding_71 : decode cX1_tellOfBinding 71 = .ok (.aload_n 0, 1) := by decide +kernel
theorem dX1_tellOfBinding_72 : decode cX1_tellOfBinding 72 = .ok (.getfield 26, 3) := by decide +kernel
theorem dX1_tellOfBinding_75 : decode cX1_tellOfBinding 75 = .ok (.getfield 130, 3) := by decide +kernel
theorem dX1_tellOfBinding_78 : decode cX1_tellOfBinding 78 = .ok (.iload_n 1, 1) := by decide +kernel
theorem dX1_tellOfBinding_79 : decode cX1_tellOfBinding 79 = .ok (.iaload, 1) := by decide +kernel
theorem dX1_tellOfBinding_80 : decode cX1_tellOfBinding 80 = .ok (.ireturn, 1) := by decide +kernel
theorem dX1_tellOfBinding_81 : decode cX1_tellOfBinding 81 = .ok (.aload_n 0, 1) := by decide +kernel
theorem dX1_tellOfBinding_82 : decode cX1_tellOfBinding 82 = .ok (.getfield 26, 3) := by decide +kernel
theorem dX1_tellOfBinding_85 : decode cX1_tellOfBinding 85 = .ok (.getfield 133, 3) := by decide +kernel
theorem dX1_tellOfBinding_88 : decode cX1_tellOfBinding 88 = .ok (.iload_n 1, 1) := by decide +kernel
theorem dX1_tellOfBinding_89 : decode cX1_tellOfBinding 89 = .ok (.iaload, 1) := by decide +kernel
theorem dX1_tellOfBinding_90 : decode cX1_tellOfBinding 90 = .ok (.ireturn, 1) := by decide +kernel
theorem dX1_tellOfHost_0 : decode cX1_tellOfHost 0 = .ok (.iload_n 2, 1) := by decide +kernel
theorem dX1_tellOfHost_1 : decode cX1_tellOfHost 1 = .ok (.tableswitch 52 0 2 #[27, 36, 45], 27) := by decide +kernel
theorem dX1_tellOfHost_28 : decode cX1_tellOfHost 28 = .ok (.aload_n 0, 1) := by decide +kernel
theorem dX1_tellOfHost_29 : decode cX1_tellOfHost 29 = .ok (.getfield 26, 3) := by decide +kernel
theorem dX1_tellOfHost_32 : decode cX1_tellOfHost 32 = .ok (.iload_n 1, 1) := by decide +kernel
theorem dX1_tellOfHost_33 : decode cX1_tellOfHost 33 = .ok (.invokevirtual 136, 3) := by decide +kernel
theorem dX1_tellOfHost_36 : decode cX1_tellOfHost 36 = .ok (.ireturn, 1) := by decide +kernel
theorem dX1_tellOfHost_37 : decode cX1_tellOfHost 37 = .ok (.aload_n 0, 1) := by decide +kernel
theorem dX1_tellOfHost_38 : decode cX1_tellOfHost 38 = .ok (.getfield 26, 3) := by decide +kernel
theorem dX1_tellOfHost_41 : decode cX1_tellOfHost 41 = .ok (.iload_n 1, 1) := by decide +kernel
theorem dX1_tellOfHost_42 : decode cX1_tellOfHost 42 = .ok (.invokevirtual 139, 3) := by decide +kernel
theorem dX1_tellOfHost_45 : decode cX1_tellOfHost 45 = .ok (.ireturn, 1) := by decide +kernel
theorem dX1_tellOfHost_46 : decode cX1_tellOfHost 46 = .ok (.aload_n 0, 1) := by decide +kernel
theorem dX1_tellOfHost_47 : decode cX1_tellOfHost 47 = .ok (.iload_n 1, 1) := by decide +kernel
theorem dX1_tellOfHost_48 : decode cX1_tellOfHost 48 = .ok (.iconst 0, 1) := by decide +kernel
theorem dX1_tellOfHost_49 : decode cX1_tellOfHost 49 = .ok (.invokevirtual 142, 3) := by decide +kernel
theorem dX1_tellOfHost_52 : decode cX1_tellOfHost 52 = .ok (.ireturn, 1) := by decide +kernel
theorem dX1_tellOfHost_53 : decode cX1_tellOfHost 53 = .ok (.aload_n 0, 1) := by decide +kernel
theorem dX1_tellOfHost_54 : decode cX1_tellOfHost 54 = .ok (.iload_n 1, 1) := by decide +kernel
theorem dX1_tellOfHost_55 : decode cX1_tellOfHost 55 = .ok (.iconst 1, 1) := by decide +kernel
theorem dX1_tellOfHost_56 : decode cX1_tellOfHost 56 = .ok (.invokevirtual 142, 3) := by decide +kernel
theorem dX1_tellOfHost_59 : decode cX1_tellOfHost 59 = .ok (.ireturn, 1) := by decide +kernel
theorem dX1_countFitFor_0 : decode cX1_countFitFor 0 = .ok (.iconst 0, 1) := by decide +kernel
theorem dX1_countFitFor_1 : decode cX1_countFitFor 1 = .ok (.istore_n 3, 1) := by decide +kernel
theorem dX1_countFitFor_2 : decode cX1_countFitFor 2 = .ok (.iconst 0, 1) := by decide +kernel
theorem dX1_countFitFor_3 : decode cX1_countFitFor 3 = .ok (.istore 4, 2) := by decide +kernel
theorem dX1_countFitFor_5 : decode cX1_countFitFor 5 = .ok (.iload 4, 2) := by decide +kernel
theorem dX1_countFitFor_7 : decode cX1_countFitFor 7 = .ok (.bipush 16, 2) := by decide +kernel
theorem dX1_countFitFor_9 : decode cX1_countFitFor 9 = .ok (.if_icmp .ge 48, 3) := by decide +kernel
theorem dX1_countFitFor_12 : decode cX1_countFitFor 12 = .ok (.aload_n 0, 1) := by decide +kernel
theorem dX1_countFitFor_13 : decode cX1_countFitFor 13 = .ok (.getfield 26, 3) := by decide +kernel
theorem dX1_countFitFor_16 : decode cX1_countFitFor 16 = .ok (.iload 4, 2) := by decide +kernel
theorem dX1_countFitFor_18 : decode cX1_countFitFor 18 = .ok (.iconst 4, 1) := by decide +kernel
theorem dX1_countFitFor_19 : decode cX1_countFitFor 19 = .ok (.idiv, 1) := by decide +kernel
theorem dX1_countFitFor_20 : decode cX1_countFitFor 20 = .ok (.invokevirtual 118, 3) := by decide +kernel
theorem dX1_countFitFor_23 : decode cX1_countFitFor 23 = .ok (.istore 5, 2) := by decide +kernel
theorem dX1_countFitFor_25 : decode cX1_countFitFor 25 = .ok (.iload 5, 2) := by decide +kernel
theorem dX1_countFitFor_27 : decode cX1_countFitFor 27 = .ok (.iload_n 1, 1) := by decide +kernel
theorem dX1_countFitFor_28 : decode cX1_countFitFor 28 = .ok (.if_icmp .eq 10, 3) := by decide +kernel
theorem dX1_countFitFor_31 : decode cX1_countFitFor 31 = .ok (.iload 5, 2) := by decide +kernel
theorem dX1_countFitFor_33 : decode cX1_countFitFor 33 = .ok (.bipush (-6), 2) := by decide +kernel
theorem dX1_countFitFor_35 : decode cX1_countFitFor 35 = .ok (.if_icmp .ne 16, 3) := by decide +kernel
theorem dX1_countFitFor_38 : decode cX1_countFitFor 38 = .ok (.aload_n 0, 1) := by decide +kernel
theorem dX1_countFitFor_39 : decode cX1_countFitFor 39 = .ok (.iload 4, 2) := by decide +kernel
theorem dX1_countFitFor_41 : decode cX1_countFitFor 41 = .ok (.iload_n 2, 1) := by decide +kernel
theorem dX1_countFitFor_42 : decode cX1_countFitFor 42 = .ok (.invokevirtual 115, 3) := by decide +kernel
theorem dX1_countFitFor_45 : decode cX1_countFitFor 45 = .ok (.ifCond .eq 6, 3) := by decide +kernel
theorem dX1_countFitFor_48 : decode cX1_countFitFor 48 = .ok (.iinc 3 1, 3) := by decide +kernel
theorem dX1_countFitFor_51 : decode cX1_countFitFor 51 = .ok (.iinc 4 1, 3) := by decide +kernel
theorem dX1_countFitFor_54 : decode cX1_countFitFor 54 = .ok (.goto (-49), 3) := by decide +kernel
theorem dX1_countFitFor_57 : decode cX1_countFitFor 57 = .ok (.iload_n 3, 1) := by decide +kernel
theorem dX1_countFitFor_58 : decode cX1_countFitFor 58 = .ok (.ireturn, 1) := by decide +kernel
theorem dX1_lifeOf_0 : decode cX1_lifeOf 0 = .ok (.aload_n 0, 1) := by decide +kernel
theorem dX1_lifeOf_1 : decode cX1_lifeOf 1 = .ok (.getfield 26, 3) := by decide +kernel
theorem dX1_lifeOf_4 : decode cX1_lifeOf 4 = .ok (.getfield 63, 3) := by decide +kernel
theorem dX1_lifeOf_7 : decode cX1_lifeOf 7 = .ok (.iload_n 1, 1) := by decide +kernel
theorem dX1_lifeOf_8 : decode cX1_lifeOf 8 = .ok (.iaload, 1) := by decide +kernel
theorem dX1_lifeOf_9 : decode cX1_lifeOf 9 = .ok (.lookupswitch 41 #[(0, 27), (1, 34)], 27) := by decide +kernel
theorem dX1_lifeOf_36 : decode cX1_lifeOf 36 = .ok (.aload_n 0, 1) := by decide +kernel
theorem dX1_lifeOf_37 : decode cX1_lifeOf 37 = .ok (.getfield 18, 3) := by decide +kernel
theorem dX1_lifeOf_40 : decode cX1_lifeOf 40 = .ok (.iconst 3, 1) := by decide +kernel
theorem dX1_lifeOf_41 : decode cX1_lifeOf 41 = .ok (.iaload, 1) := by decide +kernel
theorem dX1_lifeOf_42 : decode cX1_lifeOf 42 = .ok (.ireturn, 1) := by decide +kernel
theorem dX1_lifeOf_43 : decode cX1_lifeOf 43 = .ok (.aload_n 0, 1) := by decide +kernel
theorem dX1_lifeOf_44 : decode cX1_lifeOf 44 = .ok (.getfield 18, 3) := by decide +kernel
theorem dX1_lifeOf_47 : decode cX1_lifeOf 47 = .ok (.iconst 4, 1) := by decide +kernel
theorem dX1_lifeOf_48 : decode cX1_lifeOf 48 = .ok (.iaload, 1) := by decide +kernel
theorem dX1_lifeOf_49 : decode cX1_lifeOf 49 = .ok (.ireturn, 1) := by decide +kernel
theorem dX1_lifeOf_50 : decode cX1_lifeOf 50 = .ok (.aload_n 0, 1) := by decide +kernel
theorem dX1_lifeOf_51 : decode cX1_lifeOf 51 = .ok (.getfield 18, 3) := by decide +kernel
theorem dX1_lifeOf_54 : decode cX1_lifeOf 54 = .ok (.iconst 5, 1) := by decide +kernel
theorem dX1_lifeOf_55 : decode cX1_lifeOf 55 = .ok (.iaload, 1) := by decide +kernel
theorem dX1_lifeOf_56 : decode cX1_lifeOf 56 = .ok (.ireturn, 1) := by decide +kernel
theorem dX1_ticksLeft_0 : decode cX1_ticksLeft 0 = .ok (.aload_n 0, 1) := by decide +kernel
theorem dX1_ticksLeft_1 : decode cX1_ticksLeft 1 = .ok (.getfield 26, 3) := by decide +kernel
theorem dX1_ticksLeft_4 : decode cX1_ticksLeft 4 = .ok (.getfield 60, 3) := by decide +kernel
theorem dX1_ticksLeft_7 : decode cX1_ticksLeft 7 = .ok (.iload_n 1, 1) := by decide +kernel
theorem dX1_ticksLeft_8 : decode cX1_ticksLeft 8 = .ok (.iaload, 1) := by decide +kernel
theorem dX1_ticksLeft_9 : decode cX1_ticksLeft 9 = .ok (.aload_n 0, 1) := by decide +kernel
theorem dX1_ticksLeft_10 : decode cX1_ticksLeft 10 = .ok (.iload_n 1, 1) := by decide +kernel
theorem dX1_ticksLeft_11 : decode cX1_ticksLeft 11 = .ok (.invokevirtual 145, 3) := by decide +kernel
theorem dX1_ticksLeft_14 : decode cX1_ticksLeft 14 = .ok (.iadd, 1) := by decide +kernel
theorem dX1_ticksLeft_15 : decode cX1_ticksLeft 15 = .ok (.aload_n 0, 1) := by decide +kernel
theorem dX1_ticksLeft_16 : decode cX1_ticksLeft 16 = .ok (.getfield 37, 3) := by decide +kernel
theorem dX1_ticksLeft_19 : decode cX1_ticksLeft 19 = .ok (.isub, 1) := by decide +kernel
theorem dX1_ticksLeft_20 : decode cX1_ticksLeft 20 = .ok (.ireturn, 1) := by decide +kernel
theorem dX1_leastTicksLeft_0 : decode cX1_leastTicksLeft 0 = .ok (.bipush (-6), 2) := by decide +kernel
theorem dX1_leastTicksLeft_2 : decode cX1_leastTicksLeft 2 = .ok (.istore_n 1, 1) := by decide +kernel
theorem dX1_leastTicksLeft_3 : decode cX1_leastTicksLeft 3 = .ok (.iconst 0, 1) := by decide +kernel
theorem dX1_leastTicksLeft_4 : decode cX1_leastTicksLeft 4 = .ok (.istore_n 2, 1) := by decide +kernel
theorem dX1_leastTicksLeft_5 : decode cX1_leastTicksLeft 5 = .ok (.iload_n 2, 1) := by decide +kernel
theorem dX1_leastTicksLeft_6 : decode cX1_leastTicksLeft 6 = .ok (.bipush 16, 2) := by decide +kernel
theorem dX1_leastTicksLeft_8 : decode cX1_leastTicksLeft 8 = .ok (.if_icmp .ge 41, 3) := by decide +kernel
theorem dX1_leastTicksLeft_11 : decode cX1_leastTicksLeft 11 = .ok (.aload_n 0, 1) := by decide +kernel
theorem dX1_leastTicksLeft_12 : decode cX1_leastTicksLeft 12 = .ok (.getfield 26, 3) := by decide +kernel
theorem dX1_leastTicksLeft_15 : decode cX1_leastTicksLeft 15 = .ok (.iload_n 2, 1) := by decide +kernel
theorem dX1_leastTicksLeft_16 : decode cX1_leastTicksLeft 16 = .ok (.invokevirtual 80, 3) := by decide +kernel
theorem dX1_leastTicksLeft_19 : decode cX1_leastTicksLeft 19 = .ok (.ifCond .eq 24, 3) := by decide +kernel
theorem dX1_leastTicksLeft_22 : decode cX1_leastTicksLeft 22 = .ok (.iload_n 1, 1) := by decide +kernel
theorem dX1_leastTicksLeft_23 : decode cX1_leastTicksLeft 23 = .ok (.bipush (-6), 2) := by decide +kernel
theorem dX1_leastTicksLeft_25 : decode cX1_leastTicksLeft 25 = .ok (.if_icmp .eq 12, 3) := by decide +kernel
theorem dX1_leastTicksLeft_28 : decode cX1_leastTicksLeft 28 = .ok (.aload_n 0, 1) := by decide +kernel
theorem dX1_leastTicksLeft_29 : decode cX1_leastTicksLeft 29 = .ok (.iload_n 2, 1) := by decide +kernel
theorem dX1_leastTicksLeft_30 : decode cX1_leastTicksLeft 30 = .ok (.invokevirtual 124, 3) := by decide +kernel
theorem dX1_leastTicksLeft_33 : decode cX1_leastTicksLeft 33 = .ok (.iload_n 1, 1) := by decide +kernel
theorem dX1_leastTicksLeft_34 : decode cX1_leastTicksLeft 34 = .ok (.if_icmp .ge 9, 3) := by decide +kernel
theorem dX1_leastTicksLeft_37 : decode cX1_leastTicksLeft 37 = .ok (.aload_n 0, 1) := by decide +kernel
theorem dX1_leastTicksLeft_38 : decode cX1_leastTicksLeft 38 = .ok (.iload_n 2, 1) := by decide +kernel
theorem dX1_leastTicksLeft_39 : decode cX1_leastTicksLeft 39 = .ok (.invokevirtual 124, 3) := by decide +kernel
theorem dX1_leastTicksLeft_42 : decode cX1_leastTicksLeft 42 = .ok (.istore_n 1, 1) := by decide +kernel
theorem dX1_leastTicksLeft_43 : decode cX1_leastTicksLeft 43 = .ok (.iinc 2 1, 3) := by decide +kernel
theorem dX1_leastTicksLeft_46 : decode cX1_leastTicksLeft 46 = .ok (.goto (-41), 3) := by decide +kernel
theorem dX1_leastTicksLeft_49 : decode cX1_leastTicksLeft 49 = .ok (.iload_n 1, 1) := by decide +kernel
theorem dX1_leastTicksLeft_50 : decode cX1_leastTicksLeft 50 = .ok (.ireturn, 1) := by decide +kernel
theorem dX1_endLapsed_0 : decode cX1_endLapsed 0 = .ok (.iconst 0, 1) := by decide +kernel
theorem dX1_endLapsed_1 : decode cX1_endLapsed 1 = .ok (.istore_n 1, 1) := by decide +kernel
theorem dX1_endLapsed_2 : decode cX1_endLapsed 2 = .ok (.iconst 0, 1) := by decide +kernel
theorem dX1_endLapsed_3 : decode cX1_endLapsed 3 = .ok (.istore_n 2, 1) := by decide +kernel
theorem dX1_endLapsed_4 : decode cX1_endLapsed 4 = .ok (.iload_n 2, 1) := by decide +kernel
theorem dX1_endLapsed_5 : decode cX1_endLapsed 5 = .ok (.bipush 16, 2) := by decide +kernel
theorem dX1_endLapsed_7 : decode cX1_endLapsed 7 = .ok (.if_icmp .ge 36, 3) := by decide +kernel
theorem dX1_endLapsed_10 : decode cX1_endLapsed 10 = .ok (.aload_n 0, 1) := by decide +kernel
theorem dX1_endLapsed_11 : decode cX1_endLapsed 11 = .ok (.getfield 26, 3) := by decide +kernel
theorem dX1_endLapsed_14 : decode cX1_endLapsed 14 = .ok (.iload_n 2, 1) := by decide +kernel
theorem dX1_endLapsed_15 : decode cX1_endLapsed 15 = .ok (.invokevirtual 80, 3) := by decide +kernel
theorem dX1_endLapsed_18 : decode cX1_endLapsed 18 = .ok (.ifCond .eq 19, 3) := by decide +kernel
theorem dX1_endLapsed_21 : decode cX1_endLapsed 21 = .ok (.aload_n 0, 1) := by decide +kernel
theorem dX1_endLapsed_22 : decode cX1_endLapsed 22 = .ok (.iload_n 2, 1) := by decide +kernel
theorem dX1_endLapsed_23 : decode cX1_endLapsed 23 = .ok (.invokevirtual 124, 3) := by decide +kernel
theorem dX1_endLapsed_26 : decode cX1_endLapsed 26 = .ok (.ifCond .gt 11, 3) := by decide +kernel
theorem dX1_endLapsed_29 : decode cX1_endLapsed 29 = .ok (.aload_n 0, 1) := by decide +kernel
theorem dX1_endLapsed_30 : decode cX1_endLapsed 30 = .ok (.iload_n 2, 1) := by decide +kernel
theorem dX1_endLapsed_31 : decode cX1_endLapsed 31 = .ok (.invokevirtual 148, 3) := by decide +kernel
theorem dX1_endLapsed_34 : decode cX1_endLapsed 34 = .ok (.iinc 1 1, 3) := by decide +kernel
theorem dX1_endLapsed_37 : decode cX1_endLapsed 37 = .ok (.iinc 2 1, 3) := by decide +kernel
theorem dX1_endLapsed_40 : decode cX1_endLapsed 40 = .ok (.goto (-36), 3) := by decide +kernel
theorem dX1_endLapsed_43 : decode cX1_endLapsed 43 = .ok (.iload_n 1, 1) := by decide +kernel
theorem dX1_endLapsed_44 : decode cX1_endLapsed 44 = .ok (.ireturn, 1) := by decide +kernel
theorem dX1_endBindingsOf_0 : decode cX1_endBindingsOf 0 = .ok (.iconst 0, 1) := by decide +kernel
theorem dX1_endBindingsOf_1 : decode cX1_endBindingsOf 1 = .ok (.istore_n 2, 1) := by decide +kernel
theorem dX1_endBindingsOf_2 : decode cX1_endBindingsOf 2 = .ok (.iconst 0, 1) := by decide +kernel
theorem dX1_endBindingsOf_3 : decode cX1_endBindingsOf 3 = .ok (.istore_n 3, 1) := by decide +kernel
theorem dX1_endBindingsOf_4 : decode cX1_endBindingsOf 4 = .ok (.iload_n 3, 1) := by decide +kernel
theorem dX1_endBindingsOf_5 : decode cX1_endBindingsOf 5 = .ok (.bipush 16, 2) := by decide +kernel
theorem dX1_endBindingsOf_7 : decode cX1_endBindingsOf 7 = .ok (.if_icmp .ge 29, 3) := by decide +kernel
theorem dX1_endBindingsOf_10 : decode cX1_endBindingsOf 10 = .ok (.aload_n 0, 1) := by decide +kernel
theorem dX1_endBindingsOf_11 : decode cX1_endBindingsOf 11 = .ok (.getfield 26, 3) := by decide +kernel
theorem dX1_endBindingsOf_14 : decode cX1_endBindingsOf 14 = .ok (.iload_n 3, 1) := by decide +kernel
theorem dX1_endBindingsOf_15 : decode cX1_endBindingsOf 15 = .ok (.invokevirtual 151, 3) := by decide +kernel
theorem dX1_endBindingsOf_18 : decode cX1_endBindingsOf 18 = .ok (.iload_n 1, 1) := by decide +kernel
theorem dX1_endBindingsOf_19 : decode cX1_endBindingsOf 19 = .ok (.if_icmp .ne 11, 3) := by decide +kernel
theorem dX1_endBindingsOf_22 : decode cX1_endBindingsOf 22 = .ok (.aload_n 0, 1) := by decide +kernel
theorem dX1_endBindingsOf_23 : decode cX1_endBindingsOf 23 = .ok (.iload_n 3, 1) := by decide +kernel
theorem dX1_endBindingsOf_24 : decode cX1_endBindingsOf 24 = .ok (.invokevirtual 148, 3) := by decide +kernel
theorem dX1_endBindingsOf_27 : decode cX1_endBindingsOf 27 = .ok (.iinc 2 1, 3) := by decide +kernel
theorem dX1_endBindingsOf_30 : decode cX1_endBindingsOf 30 = .ok (.iinc 3 1, 3) := by decide +kernel
theorem dX1_endBindingsOf_33 : decode cX1_endBindingsOf 33 = .ok (.goto (-29), 3) := by decide +kernel
theorem dX1_endBindingsOf_36 : decode cX1_endBindingsOf 36 = .ok (.iload_n 2, 1) := by decide +kernel
theorem dX1_endBindingsOf_37 : decode cX1_endBindingsOf 37 = .ok (.ireturn, 1) := by decide +kernel
theorem dX1_endAll_0 : decode cX1_endAll 0 = .ok (.iconst 0, 1) := by decide +kernel
theorem dX1_endAll_1 : decode cX1_endAll 1 = .ok (.istore_n 1, 1) := by decide +kernel
theorem dX1_endAll_2 : decode cX1_endAll 2 = .ok (.iload_n 1, 1) := by decide +kernel
theorem dX1_endAll_3 : decode cX1_endAll 3 = .ok (.bipush 16, 2) := by decide +kernel
theorem dX1_endAll_5 : decode cX1_endAll 5 = .ok (.if_icmp .ge 14, 3) := by decide +kernel
theorem dX1_endAll_8 : decode cX1_endAll 8 = .ok (.aload_n 0, 1) := by decide +kernel
theorem dX1_endAll_9 : decode cX1_endAll 9 = .ok (.iload_n 1, 1) := by decide +kernel
theorem dX1_endAll_10 : decode cX1_endAll 10 = .ok (.invokevirtual 148, 3) := by decide +kernel
theorem dX1_endAll_13 : decode cX1_endAll 13 = .ok (.iinc 1 1, 3) := by decide +kernel
theorem dX1_endAll_16 : decode cX1_endAll 16 = .ok (.goto (-14), 3) := by decide +kernel
theorem dX1_endAll_19 : decode cX1_endAll 19 = .ok (.return_, 1) := by decide +kernel
theorem dX1_endBinding_0 : decode cX1_endBinding 0 = .ok (.aload_n 0, 1) := by decide +kernel
theorem dX1_endBinding_1 : decode cX1_endBinding 1 = .ok (.getfield 26, 3) := by decide +kernel
theorem dX1_endBinding_4 : decode cX1_endBinding 4 = .ok (.iload_n 1, 1) := by decide +kernel
theorem dX1_endBinding_5 : decode cX1_endBinding 5 = .ok (.invokevirtual 154, 3) := by decide +kernel
theorem dX1_endBinding_8 : decode cX1_endBinding 8 = .ok (.aload_n 0, 1) := by decide +kernel
theorem dX1_endBinding_9 : decode cX1_endBinding 9 = .ok (.getfield 33, 3) := by decide +kernel
theorem dX1_endBinding_12 : decode cX1_endBinding 12 = .ok (.iload_n 1, 1) := by decide +kernel
theorem dX1_endBinding_13 : decode cX1_endBinding 13 = .ok (.invokevirtual 157, 3) := by decide +kernel
theorem dX1_endBinding_16 : decode cX1_endBinding 16 = .ok (.return_, 1) := by decide +kernel
theorem dX1_becomeLike_0 : decode cX1_becomeLike 0 = .ok (.aload_n 1, 1) := by decide +kernel
theorem dX1_becomeLike_1 : decode cX1_becomeLike 1 = .ok (.getfield 18, 3) := by decide +kernel
theorem dX1_becomeLike_4 : decode cX1_becomeLike 4 = .ok (.iconst 0, 1) := by decide +kernel
theorem dX1_becomeLike_5 : decode cX1_becomeLike 5 = .ok (.aload_n 0, 1) := by decide +kernel
theorem dX1_becomeLike_6 : decode cX1_becomeLike 6 = .ok (.getfield 18, 3) := by decide +kernel
theorem dX1_becomeLike_9 : decode cX1_becomeLike 9 = .ok (.iconst 0, 1) := by decide +kernel
theorem dX1_becomeLike_10 : decode cX1_becomeLike 10 = .ok (.bipush 6, 2) := by decide +kernel
theorem dX1_becomeLike_12 : decode cX1_becomeLike 12 = .ok (.invokestatic 160, 3) := by decide +kernel
theorem dX1_becomeLike_15 : decode cX1_becomeLike 15 = .ok (.aload_n 0, 1) := by decide +kernel
theorem dX1_becomeLike_16 : decode cX1_becomeLike 16 = .ok (.getfield 26, 3) := by decide +kernel
theorem dX1_becomeLike_19 : decode cX1_becomeLike 19 = .ok (.aload_n 1, 1) := by decide +kernel
theorem dX1_becomeLike_20 : decode cX1_becomeLike 20 = .ok (.getfield 26, 3) := by decide +kernel
theorem dX1_becomeLike_23 : decode cX1_becomeLike 23 = .ok (.invokevirtual 166, 3) := by decide +kernel
theorem dX1_becomeLike_26 : decode cX1_becomeLike 26 = .ok (.aload_n 0, 1) := by decide +kernel
theorem dX1_becomeLike_27 : decode cX1_becomeLike 27 = .ok (.getfield 33, 3) := by decide +kernel
theorem dX1_becomeLike_30 : decode cX1_becomeLike 30 = .ok (.aload_n 1, 1) := by decide +kernel
theorem dX1_becomeLike_31 : decode cX1_becomeLike 31 = .ok (.getfield 33, 3) := by decide +kernel
theorem dX1_becomeLike_34 : decode cX1_becomeLike 34 = .ok (.invokevirtual 170, 3) := by decide +kernel
theorem dX1_becomeLike_37 : decode cX1_becomeLike 37 = .ok (.aload_n 0, 1) := by decide +kernel
theorem dX1_becomeLike_38 : decode cX1_becomeLike 38 = .ok (.aload_n 1, 1) := by decide +kernel
theorem dX1_becomeLike_39 : decode cX1_becomeLike 39 = .ok (.getfield 37, 3) := by decide +kernel
theorem dX1_becomeLike_42 : decode cX1_becomeLike 42 = .ok (.putfield 37, 3) := by decide +kernel
theorem dX1_becomeLike_45 : decode cX1_becomeLike 45 = .ok (.return_, 1) := by decide +kernel
